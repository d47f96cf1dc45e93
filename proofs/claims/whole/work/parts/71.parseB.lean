/-! the rules' text: values, bounds, what the conditions' steps do -/
def hB (b : Nat → Int32) : List Nat → Int32
  | [] => 0
  | p :: _ => b p
def P10 : Nat → Int
  | 0 => 1
  | k + 1 => 10 * P10 k
def runL (f : Int32 → Int32) : List Int32 → List Int32 → Option (List Int32)
  | [], st => some st
  | c :: L, st => (stpC f c st).bind (runL f L)
section ParseB
variable {b : Nat → Int32} {n i j k p m : Nat} {c x a y : Int32} {T : List Nat} {w u : List Int32} {A B : List pSt} {o l : Bool}
theorem P10_5 : P10 0 = 1 ∧ P10 1 = 10 ∧ P10 2 = 100 ∧ P10 3 = 1000 ∧ P10 4 = 10000 := by decide
theorem dg_st (hx : isDg x = true) (h0 : 0 ≤ a.toInt) (h1 : a.toInt < 10000) : (a * 10 + (x - 48)).toInt = a.toInt * 10 + (x.toInt - 48) := by
  have hd := bt_iff.mp hx
  have e1 : (48 : Int32).toInt = 48 := rfl
  have e2 : (10 : Int32).toInt = 10 := rfl
  have h2 : (x - 48).toInt = x.toInt - 48 := by rw [t_sub (by omega) (by omega), e1]
  have h3 : (a * 10).toInt = a.toInt * 10 := by rw [t_mul (by rw [e2]; omega) (by rw [e2]; omega), e2]
  rw [t_add (by rw [h2, h3]; omega) (by rw [h2, h3]; omega), h2, h3]
theorem nu_b : ∀ k p (a : Int32) m, m + k ≤ 4 → (∀ j, p ≤ j → j < p + k → isDg (b j) = true) → 0 ≤ a.toInt → a.toInt < P10 m → 0 ≤ (nuF b p k a).toInt ∧ (nuF b p k a).toInt < 10000
  | 0, p, a, m, hm, hd, h0, h1 => by
    have h5 := P10_5
    have : m = 0 ∨ m = 1 ∨ m = 2 ∨ m = 3 ∨ m = 4 := by omega
    refine ⟨h0, ?_⟩
    show a.toInt < 10000
    rcases this with rfl | rfl | rfl | rfl | rfl <;> omega
  | k + 1, p, a, m, hm, hd, h0, h1 => by
    have h5 := P10_5
    have hm4 : m = 0 ∨ m = 1 ∨ m = 2 ∨ m = 3 := by omega
    have hx := hd p (Nat.le_refl _) (by omega)
    have hb := bt_iff.mp hx
    have ha : a.toInt < 10000 := by rcases hm4 with rfl | rfl | rfl | rfl <;> omega
    have e := dg_st hx h0 ha
    refine nu_b k (p + 1) _ (m + 1) (by omega) (fun j q1 q2 => hd j (by omega) (by omega)) (by rw [e]; omega) ?_
    rw [e]
    show _ < 10 * P10 m
    omega
theorem sr_18 (h : srF b n p = 18) : isDg (b p) = true ∧ enP b n p - p ≤ 4 := by
  unfold srF at h
  cases hl : isLt (b p) with
  | true =>
    rw [hl] at h
    simp only [cond_true] at h
    rcases wdI_b (w := subL b p (enP b n p - p)) with ⟨k, hk, e⟩ | e
    · rw [e, show (18 : Int32) = Int32.ofNat 18 from rfl, iN_inj (by omega) (by omega)] at h; omega
    · rw [e] at h; exact absurd h (by decide)
  | false =>
    rw [hl] at h
    cases hd : isDg (b p) with
    | true =>
      rw [hd] at h
      simp only [cond_true, cond_false] at h
      refine ⟨rfl, ?_⟩
      by_cases q : enP b n p - p ≤ 4
      · exact q
      · rw [if_neg q] at h; exact absurd h (by decide)
    | false =>
      rw [hd] at h
      simp only [cond_false] at h
      cases hs : sgn6 (b p) with
      | true =>
        rw [hs] at h
        simp only [cond_true] at h
        rw [h] at hs; exact absurd hs (by decide)
      | false => rw [hs] at h; exact absurd (show (20 : Int32) = 18 from h) (by decide)
theorem va_18 (h : srF b n p = 18) : vaF b n p = nuF b p (enP b n p - p) 0 ∧ 0 ≤ (vaF b n p).toInt ∧ (vaF b n p).toInt < 10000 := by
  obtain ⟨h1, h2⟩ := sr_18 h
  have e : vaF b n p = nuF b p (enP b n p - p) 0 := if_pos h
  rw [e]
  exact ⟨rfl, nu_b _ p 0 0 (by omega) (fun j q1 q2 => tok_dg (n := n) h1 q1 (by omega)) (by decide) (by decide)⟩
theorem isV_c (h : isV x = true) : x = 18 ∨ (13 ≤ x.toInt ∧ x.toInt ≤ 17) := by
  unfold isV at h
  rw [Bool.or_eq_true, decide_eq_true_eq, bt_iff] at h
  exact h
theorem va_ne (h : ¬ srF b n p = 18) : vaF b n p = 12 - srF b n p := if_neg h
theorem hV_b (h : isV (hS b n T) = true) : bt (hV b n T) (-5) 9999 = true := by
  cases T with
  | nil => exact absurd (show isV (19 : Int32) = true from h) (by decide)
  | cons p T =>
    show bt (vaF b n p) (-5) 9999 = true
    have h' : isV (srF b n p) = true := h
    by_cases h18 : srF b n p = 18
    · have := va_18 h18
      exact bt_iff.mpr (by omega)
    · rcases isV_c h' with q | q
      · exact absurd q h18
      · have e12 : (12 : Int32).toInt = 12 := rfl
        rw [va_ne h18]
        refine bt_iff.mpr ?_
        rw [t_sub (by omega) (by omega), e12]; omega
theorem hS_19 : hS b n T = 19 ↔ T = [] := by
  cases T with
  | nil => exact ⟨fun _ => rfl, fun _ => rfl⟩
  | cons p T =>
    refine ⟨fun h => ?_, fun h => by cases h⟩
    have h' : srF b n p = 19 := h
    cases hl : isLt (b p) with
    | true =>
      unfold srF at h'
      rw [hl] at h'
      simp only [cond_true] at h'
      rcases wdI_b (w := subL b p (enP b n p - p)) with ⟨k, hk, e⟩ | e
      · rw [e, show (19 : Int32) = Int32.ofNat 19 from rfl, iN_inj (by omega) (by omega)] at h'; omega
      · rw [e] at h'; exact absurd h' (by decide)
    | false =>
      rcases sr_hi (n := n) hl with q | q | ⟨q1, q⟩
      · rw [q] at h'; exact absurd h' (by decide)
      · rw [q] at h'; exact absurd h' (by decide)
      · rw [q] at h'; rw [h'] at q1; exact absurd q1 (by decide)
theorem hB_sg (hc : sgn6 c = true) : (hB b T = c) = (hS b n T = c) := by
  cases T with
  | nil =>
    refine propext ⟨fun h => ?_, fun h => ?_⟩
    · rw [← show (0 : Int32) = c from h] at hc; exact absurd hc (by decide)
    · rw [← show (19 : Int32) = c from h] at hc; exact absurd hc (by decide)
  | cons p T =>
    show (b p = c) = (srF b n p = c)
    have hcc := sgn6_c hc
    refine propext ⟨fun h => ?_, fun h => ?_⟩
    · have hl : isLt (b p) = false := by rw [h]; rcases hcc with rfl | rfl | rfl | rfl | rfl | rfl <;> decide
      have hd : isDg (b p) = false := by rw [h]; rcases hcc with rfl | rfl | rfl | rfl | rfl | rfl <;> decide
      unfold srF
      rw [hl, hd, h, hc]; rfl
    · cases hl : isLt (b p) with
      | true =>
        unfold srF at h
        rw [hl] at h
        simp only [cond_true] at h
        rcases wdI_b (w := subL b p (enP b n p - p)) with ⟨k, hk, e⟩ | e
        · rw [e] at h
          have h3 : c.toInt = (k : Int) := by rw [← h, iN_ti (by omega)]
          rcases hcc with rfl | rfl | rfl | rfl | rfl | rfl
          · exact absurd (show (60 : Int) = (k : Int) from h3) (by omega)
          · exact absurd (show (61 : Int) = (k : Int) from h3) (by omega)
          · exact absurd (show (62 : Int) = (k : Int) from h3) (by omega)
          · exact absurd (show (40 : Int) = (k : Int) from h3) (by omega)
          · exact absurd (show (41 : Int) = (k : Int) from h3) (by omega)
          · exact absurd (show (59 : Int) = (k : Int) from h3) (by omega)
        · rw [e] at h; rw [← h] at hc; exact absurd hc (by decide)
      | false =>
        rcases sr_hi (n := n) hl with q | q | ⟨q1, q⟩
        · rw [q] at h; rw [← h] at hc; exact absurd hc (by decide)
        · rw [q] at h; rw [← h] at hc; exact absurd hc (by decide)
        · rw [← q]; exact h
theorem hS_18 : (isDg (hB b T) && decide (hE b n T - hP n T ≤ 4)) = decide (hS b n T = 18) := by
  cases T with
  | nil => rfl
  | cons p T =>
    show (isDg (b p) && decide (enP b n p - p ≤ 4)) = decide (srF b n p = 18)
    by_cases h : srF b n p = 18
    · obtain ⟨h1, h2⟩ := sr_18 h
      rw [h1, decide_eq_true h, decide_eq_true h2]; rfl
    · rw [decide_eq_false h]
      cases hd : isDg (b p) with
      | false => rfl
      | true =>
        have hl : isLt (b p) = false := by
          cases q : isLt (b p) with
          | false => rfl
          | true => rw [lt_dg q] at hd; cases hd
        by_cases h2 : enP b n p - p ≤ 4
        · refine absurd ?_ h
          unfold srF
          rw [hl, hd]
          simp only [cond_true, cond_false]
          rw [if_pos h2]
        · rw [decide_eq_false h2]; rfl
theorem gt_ne (h : ¬ hS b n T = 19) : T ≠ [] := fun e => h (hS_19.mpr e)
theorem WL_l : WL[9]? = some [105, 102] ∧ WL[10]? = some [111, 114] ∧ WL[11]? = some [97, 110, 100] ∧ WL[12]? = some [110, 111, 116] := ⟨rfl, rfl, rfl, rfl⟩
theorem gt_w (g : Gt b n T) (h : hS b n T = 10 ∨ hS b n T = 11 ∨ hS b n T = 12) : hP n T + (if hS b n T = 10 then 2 else 3) ≤ hP n T.tail := by
  have h1 := (gt_hE g).2.2.1
  rcases h with h | h | h
  · obtain ⟨u, e1, e2⟩ := wd_len (i := 10) (by decide) h
    rw [WL_l.2.1] at e1
    cases e1
    rw [h, if_pos rfl]
    have : ([111, 114] : List Int32).length = 2 := rfl
    omega
  · obtain ⟨u, e1, e2⟩ := wd_len (i := 11) (by decide) h
    rw [WL_l.2.2.1] at e1
    cases e1
    rw [h, if_neg (by decide)]
    have : ([97, 110, 100] : List Int32).length = 3 := rfl
    omega
  · obtain ⟨u, e1, e2⟩ := wd_len (i := 12) (by decide) h
    rw [WL_l.2.2.2] at e1
    cases e1
    rw [h, if_neg (by decide)]
    have : ([110, 111, 116] : List Int32).length = 3 := rfl
    omega
theorem exL_app : ∀ A B : List pSt, exL (A ++ B) = exL A ++ exL B
  | [], B => rfl
  | t :: A, B => by
    show exS t ++ exL (A ++ B) = (exS t ++ exL A) ++ exL B
    rw [exL_app A B, List.append_assoc]
theorem isG_c (h : isG x = true) : x = 60 ∨ x = 61 ∨ x = 62 := by
  unfold isG at h
  simp only [Bool.or_eq_true, decide_eq_true_eq] at h
  rcases h with (h | h) | h
  · exact Or.inl h
  · exact Or.inr (Or.inl h)
  · exact Or.inr (Or.inr h)
theorem exS_3 (h : isG x = true) : exS (x, a, y) = [a, y, if x = 60 then -11 else if x = 61 then -12 else -13] := by
  unfold exS
  rcases isG_c h with rfl | rfl | rfl <;> rfl
/-- bounds: each step takes two bytes, each code one -/
def GB (b : Nat → Int32) (n : Nat) (G : List Nat → List pSt → pRs) : Prop := ∀ T A (c e : Nat), Gt b n T → 2 * A.length + c ≤ hP n T → (exL A).length + e ≤ hP n T →
  (Gt b n (G T A).2.1 ∧ (G T A).2.1.length ≤ T.length ∧ hP n T ≤ hP n (G T A).2.1) ∧ 2 * (G T A).2.2.length + c ≤ hP n (G T A).2.1 ∧ (exL (G T A).2.2).length + e ≤ hP n (G T A).2.1
theorem tl_l {T : List Nat} : T.tail.length ≤ T.length := by cases T <;> simp
theorem isV_n (h : isV (hS b n T) = true) : T ≠ [] := fun e => by rw [e] at h; exact absurd (show isV (19 : Int32) = true from h) (by decide)
theorem isG_n (h : isG (hS b n T) = true) : T ≠ [] := fun e => by rw [e] at h; exact absurd (show isG (19 : Int32) = true from h) (by decide)
theorem GB_cmp : GB b n (cmpP (hS b n) (hV b n)) := by
  intro T A c e g h1 h2
  unfold cmpP
  have g1 := gt_tl g
  have g2 := gt_tl g1
  have g3 := gt_tl g2
  have p1 := gt_P g
  have p2 := gt_P g1
  have p3 := gt_P g2
  have l1 := tl_l (T := T)
  have l2 := tl_l (T := T.tail)
  have l3 := tl_l (T := T.tail.tail)
  cases q1 : isV (hS b n T) with
  | false => exact ⟨⟨g, Nat.le_refl _, Nat.le_refl _⟩, h1, h2⟩
  | true =>
    have r1 := p1.2.2 (isV_n q1)
    cases q2 : isG (hS b n T.tail) with
    | false => exact ⟨⟨g1, l1, p1.2.1⟩, by show 2 * A.length + c ≤ hP n T.tail; omega, by show (exL A).length + e ≤ hP n T.tail; omega⟩
    | true =>
      have r2 := p2.2.2 (isG_n q2)
      cases q3 : isV (hS b n T.tail.tail) with
      | false => exact ⟨⟨g2, by show T.tail.tail.length ≤ _; omega, by show _ ≤ hP n T.tail.tail; omega⟩, by show 2 * A.length + c ≤ hP n T.tail.tail; omega, by show (exL A).length + e ≤ hP n T.tail.tail; omega⟩
      | true =>
        have r3 := p3.2.2 (isV_n q3)
        refine ⟨⟨g3, by show T.tail.tail.tail.length ≤ _; omega, by show _ ≤ hP n T.tail.tail.tail; omega⟩, ?_, ?_⟩
        · show 2 * (A ++ [_]).length + c ≤ hP n T.tail.tail.tail
          rw [List.length_append]
          show 2 * (A.length + 1) + c ≤ _
          omega
        · show (exL (A ++ [_])).length + e ≤ hP n T.tail.tail.tail
          rw [exL_app, List.length_append]
          show (exL A).length + (exS (hS b n T.tail, hV b n T, hV b n T.tail.tail) ++ []).length + e ≤ _
          rw [exS_3 q2]
          show (exL A).length + 3 + e ≤ _
          omega
theorem not_b' : ∀ T g, Gt b n T → Gt b n (notP (hS b n) g T).2 ∧ (notP (hS b n) g T).2.length ≤ T.length ∧ hP n T + (if (notP (hS b n) g T).1 = g then 0 else 3) ≤ hP n (notP (hS b n) g T).2 ∧ ¬ hS b n (notP (hS b n) g T).2 = 12
  | [], g, h => ⟨h, Nat.le_refl _, by show n + (if g = g then 0 else 3) ≤ n; rw [if_pos rfl]; omega, by show ¬ (19 : Int32) = 12; decide⟩
  | p :: T, g, h => by
    unfold notP
    by_cases hq : hS b n (p :: T) = 12
    · rw [if_pos hq]
      have h1 := not_b' T (!g) (gt_tl h)
      have h2 := gt_w h (Or.inr (Or.inr hq))
      rw [hq, if_neg (by decide)] at h2
      have h3 : hP n (p :: T).tail = hP n T := rfl
      refine ⟨h1.1, by have := h1.2.1; show _ ≤ T.length + 1; omega, ?_, h1.2.2.2⟩
      have h4 := h1.2.2.1
      have h5 : (if (notP (hS b n) (!g) T).1 = g then 0 else 3) ≤ 3 := by split <;> omega
      omega
    · rw [if_neg hq]
      exact ⟨h, Nat.le_refl _, by show hP n (p :: T) + (if g = g then 0 else 3) ≤ _; rw [if_pos rfl]; exact Nat.le_refl _, hq⟩
theorem cA_l (hx : x = 10 ∨ x = 11 ∨ x = 12) : (cA o A x).length = A.length + (if o = true then 1 else 0) ∧ (exL (cA o A x)).length = (exL A).length + (if o = true then 1 else 0) := by
  unfold cA
  cases o with
  | false => exact ⟨rfl, rfl⟩
  | true =>
    refine ⟨by rw [cond_true, List.length_append]; rfl, ?_⟩
    rw [cond_true, exL_app, List.length_append]
    rcases hx with rfl | rfl | rfl <;> rfl
theorem GB_on1 {G : List Nat → List pSt → pRs} (hG : GB b n G) : GB b n (on1 (hS b n) (hV b n) G) := by
  intro T A c e g h1 h2
  unfold on1
  by_cases h : hS b n T = 40
  · simp only [if_pos h]; exact hG T A c e g h1 h2
  · simp only [if_neg h]; exact GB_cmp T A c e g h1 h2
theorem GB_one {G : List Nat → List pSt → pRs} (hG : GB b n G) : GB b n (oneP (hS b n) (hV b n) G) := by
  intro T A c e g h1 h2
  have hn := not_b' T false g
  unfold oneP
  generalize hT : notP (hS b n) false T = q at hn ⊢
  obtain ⟨q1, T1⟩ := q
  obtain ⟨n1, n2, n3, n4⟩ := hn
  dsimp only at n1 n2 n3 n4 ⊢
  have hr := GB_on1 hG T1 A (c + (if q1 = true then 2 else 0)) (e + (if q1 = true then 1 else 0)) n1 (by cases q1 <;> simp at n3 ⊢ <;> omega) (by cases q1 <;> simp at n3 ⊢ <;> omega)
  generalize on1 (hS b n) (hV b n) G T1 A = r at hr ⊢
  obtain ⟨r1, T2, A2⟩ := r
  obtain ⟨⟨g1, g2, g3⟩, g4, g5⟩ := hr
  dsimp only at g1 g2 g3 g4 g5 ⊢
  have hc := cA_l (o := r1 && q1) (A := A2) (x := 12) (Or.inr (Or.inr rfl))
  have hn3 : hP n T ≤ hP n T1 := by omega
  refine ⟨⟨g1, by omega, by omega⟩, ?_, ?_⟩
  · rw [hc.1]; cases r1 <;> cases q1 <;> simp at g4 ⊢ <;> omega
  · rw [hc.2]; cases r1 <;> cases q1 <;> simp at g5 ⊢ <;> omega
def o2 (o : Bool) : Nat := if o = true then 1 else 0
theorem GB_cnd {G : List Nat → List pSt → pRs} (hG : GB b n G) : ∀ k o l T A (c e : Nat), Gt b n T → 2 * A.length + 2 * o2 o + 2 * o2 l + c ≤ hP n T → (exL A).length + o2 o + o2 l + e ≤ hP n T →
    (Gt b n (cndP (hS b n) (hV b n) G k o l T A).2.1 ∧ (cndP (hS b n) (hV b n) G k o l T A).2.1.length ≤ T.length ∧ hP n T ≤ hP n (cndP (hS b n) (hV b n) G k o l T A).2.1) ∧ 2 * (cndP (hS b n) (hV b n) G k o l T A).2.2.length + c ≤ hP n (cndP (hS b n) (hV b n) G k o l T A).2.1 ∧ (exL (cndP (hS b n) (hV b n) G k o l T A).2.2).length + e ≤ hP n (cndP (hS b n) (hV b n) G k o l T A).2.1
  | 0, o, l, T, A, c, e, g, h1, h2 => ⟨⟨g, Nat.le_refl _, Nat.le_refl _⟩, by show 2 * A.length + c ≤ hP n T; omega, by show (exL A).length + e ≤ hP n T; omega⟩
  | k + 1, o, l, T, A, c, e, g, h1, h2 => by
    have hr := GB_one hG T A (2 * o2 o + 2 * o2 l + c) (o2 o + o2 l + e) g (by omega) (by omega)
    unfold cndP
    generalize oneP (hS b n) (hV b n) G T A = r at hr ⊢
    obtain ⟨r1, T1, A1⟩ := r
    obtain ⟨⟨g1, g2, g3⟩, g4, g5⟩ := hr
    dsimp only at g1 g2 g3 g4 g5 ⊢
    have ca := cA_l (o := o) (A := A1) (x := 11) (Or.inr (Or.inl rfl))
    have cb := cA_l (o := l) (A := cA o A1 11) (x := 10) (Or.inl rfl)
    have t1 := gt_tl g1
    have tl := tl_l (T := T1)
    cases r1 with
    | false => exact ⟨⟨g1, g2, g3⟩, by show 2 * A1.length + c ≤ hP n T1; omega, by show (exL A1).length + e ≤ hP n T1; omega⟩
    | true =>
      simp only [cond_true]
      by_cases h11 : hS b n T1 = 11
      · rw [if_pos h11]
        have hw := gt_w g1 (Or.inr (Or.inl h11))
        rw [h11, if_neg (by decide)] at hw
        have := GB_cnd hG k true l T1.tail (cA o A1 11) c e t1 (by rw [ca.1]; unfold o2 at *; simp only [if_true]; omega) (by rw [ca.2]; unfold o2 at *; simp only [if_true]; omega)
        exact ⟨⟨this.1.1, by omega, by omega⟩, this.2⟩
      · rw [if_neg h11]
        by_cases h10 : hS b n T1 = 10
        · rw [if_pos h10]
          have hw := gt_w g1 (Or.inl h10)
          rw [h10, if_pos rfl] at hw
          have := GB_cnd hG k false true T1.tail (cA l (cA o A1 11) 10) c e t1 (by rw [cb.1, ca.1]; unfold o2 at *; simp only [if_true, Bool.false_eq_true, if_false]; omega) (by rw [cb.2, ca.2]; unfold o2 at *; simp only [if_true, Bool.false_eq_true, if_false]; omega)
          exact ⟨⟨this.1.1, by omega, by omega⟩, this.2⟩
        · rw [if_neg h10]
          refine ⟨⟨g1, g2, g3⟩, ?_, ?_⟩
          · show 2 * (cA l (cA o A1 11) 10).length + c ≤ hP n T1
            rw [cb.1, ca.1]; unfold o2 at *; omega
          · show (exL (cA l (cA o A1 11) 10)).length + e ≤ hP n T1
            rw [cb.2, ca.2]; unfold o2 at *; omega
theorem GB_grp : ∀ r, GB b n (grpP (hS b n) (hV b n) r)
  | 0 => fun T A c e g h1 h2 => ⟨⟨g, Nat.le_refl _, Nat.le_refl _⟩, h1, h2⟩
  | r + 1 => by
    intro T A c e g h1 h2
    have p1 := gt_P g
    have l1 := tl_l (T := T)
    have hr := GB_cnd (GB_grp r) 200 false false T.tail A c e (gt_tl g) (by unfold o2; simp only [Bool.false_eq_true, if_false]; omega) (by unfold o2; simp only [Bool.false_eq_true, if_false]; omega)
    unfold grpP
    generalize cndP (hS b n) (hV b n) (grpP (hS b n) (hV b n) r) 200 false false T.tail A = q at hr ⊢
    obtain ⟨q1, T1, A1⟩ := q
    obtain ⟨⟨g1, g2, g3⟩, g4, g5⟩ := hr
    dsimp only at g1 g2 g3 g4 g5 ⊢
    have p2 := gt_P g1
    have l2 := tl_l (T := T1)
    by_cases h : (q1 && decide (hS b n T1 = 41)) = true
    · rw [if_pos h]
      exact ⟨⟨gt_tl g1, by omega, by omega⟩, by omega, by omega⟩
    · rw [if_neg h]
      exact ⟨⟨g1, by omega, by omega⟩, g4, g5⟩
/-- what the steps do -/
def SG (G : List Nat → List pSt → pRs) (m : Nat) : Prop := ∀ T A, (G T A).1 = true → ∃ L, (G T A).2.2 = A ++ L ∧ ∀ f st, st.length ≤ m → ∃ v, runL f (exL L) st = some (v :: st)
theorem runL_app {f : Int32 → Int32} : ∀ (L K st : List Int32), runL f (L ++ K) st = (runL f L st).bind (runL f K)
  | [], K, st => rfl
  | c :: L, K, st => by
    show (stpC f c st).bind (runL f (L ++ K)) = ((stpC f c st).bind (runL f L)).bind (runL f K)
    rw [Option.bind_assoc]
    congr 1
    funext q
    exact runL_app L K q
theorem st_v {f : Int32 → Int32} {st : List Int32} (h : bt x (-5) 9999 = true) (hs : st.length < 12) : stpC f x st = some (f x :: st) := by
  have h1 := bt_iff.mp h
  unfold stpC
  rw [if_pos (by rw [Int32.lt_iff_toInt_lt]; show -10 < x.toInt; omega), if_pos hs]
theorem st_2 {f : Int32 → Int32} {st : List Int32} (h : x = -11 ∨ x = -12 ∨ x = -13 ∨ x = -21 ∨ x = -22) : stpC f x (y :: a :: st) = some (bI (hldC x a y) :: st) := by
  unfold stpC
  rcases h with rfl | rfl | rfl | rfl | rfl
  · rw [if_neg (by decide), if_neg (by decide)]
  · rw [if_neg (by decide), if_neg (by decide)]
  · rw [if_neg (by decide), if_neg (by decide)]
  · rw [if_neg (by decide), if_neg (by decide)]
  · rw [if_neg (by decide), if_neg (by decide)]
theorem SG_cmp (hm : m ≤ 10) : SG (cmpP (hS b n) (hV b n)) m := by
  intro T A h
  unfold cmpP at h ⊢
  cases q1 : isV (hS b n T) with
  | false => rw [q1] at h; cases h
  | true =>
    cases q2 : isG (hS b n T.tail) with
    | false => rw [q1, q2] at h; cases h
    | true =>
      cases q3 : isV (hS b n T.tail.tail) with
      | false => rw [q1, q2, q3] at h; cases h
      | true =>
        refine ⟨[(hS b n T.tail, hV b n T, hV b n T.tail.tail)], rfl, fun f st hs => ?_⟩
        show ∃ v, runL f (exS (hS b n T.tail, hV b n T, hV b n T.tail.tail) ++ []) st = _
        rw [exS_3 q2, List.append_nil]
        refine ⟨bI (hldC (if hS b n T.tail = 60 then -11 else if hS b n T.tail = 61 then -12 else -13) (f (hV b n T)) (f (hV b n T.tail.tail))), ?_⟩
        show (stpC f _ st).bind (runL f _) = _
        rw [st_v (hV_b q1) (by omega), Option.bind_some]
        show (stpC f _ _).bind (runL f _) = _
        rw [st_v (hV_b q3) (by simp; omega), Option.bind_some]
        show (stpC f _ _).bind (runL f _) = _
        rw [st_2 (by rcases isG_c q2 with e | e | e <;> rw [e] <;> decide), Option.bind_some]
        rfl
theorem st_n {f : Int32 → Int32} {st : List Int32} : stpC f (-20) (x :: st) = some ((1 - x) :: st) := by
  unfold stpC
  rw [if_neg (by decide), if_pos rfl]
theorem SG_one {G : List Nat → List pSt → pRs} (hG : SG G m) (hm : m ≤ 10) : SG (oneP (hS b n) (hV b n) G) m := by
  intro T A h
  unfold oneP at h ⊢
  generalize notP (hS b n) false T = q at h ⊢
  obtain ⟨q1, T1⟩ := q
  dsimp only at h ⊢
  have hr : (on1 (hS b n) (hV b n) G T1 A).1 = true → ∃ L, (on1 (hS b n) (hV b n) G T1 A).2.2 = A ++ L ∧ ∀ f st, st.length ≤ m → ∃ v, runL f (exL L) st = some (v :: st) := by
    intro h1
    unfold on1 at h1 ⊢
    by_cases e : hS b n T1 = 40
    · rw [if_pos e] at h1 ⊢; exact hG T1 A h1
    · rw [if_neg e] at h1 ⊢; exact SG_cmp hm T1 A h1
  generalize on1 (hS b n) (hV b n) G T1 A = r at h hr ⊢
  obtain ⟨r1, T2, A2⟩ := r
  dsimp only at h hr ⊢
  subst h
  obtain ⟨L, e1, e2⟩ := hr rfl
  cases q1 with
  | false => exact ⟨L, e1, e2⟩
  | true =>
    refine ⟨L ++ [(12, 0, 0)], ?_, fun f st hs => ?_⟩
    · show A2 ++ _ = _
      rw [e1, List.append_assoc]
    · obtain ⟨v, hv⟩ := e2 f st hs
      refine ⟨1 - v, ?_⟩
      rw [exL_app, runL_app, hv, Option.bind_some]
      show (stpC f (-20) _).bind (runL f []) = _
      rw [st_n]; rfl
def acL (o : Bool) (x : Int32) : List Int32 := bif o then [x] else []
theorem cA_app {L : List pSt} : cA o (A ++ L) x = A ++ cA o L x := by
  unfold cA
  cases o with
  | false => rfl
  | true => show (A ++ L) ++ _ = A ++ (L ++ _); rw [List.append_assoc]
theorem cA_run (hx : x = 10 ∨ x = 11) {f : Int32 → Int32} {st : List Int32} {v z : Int32} {L : List pSt} {s0 : List Int32} (hr : runL f (exL L) s0 = some (v :: (acL o z ++ st))) : ∃ v', runL f (exL (cA o L x)) s0 = some (v' :: st) := by
  unfold cA
  cases o with
  | false => exact ⟨v, hr⟩
  | true =>
    have e : ∀ K, runL f (exL (L ++ K)) s0 = runL f (exL K) (v :: z :: st) := fun K => by
      rw [exL_app, runL_app, hr, Option.bind_some]; rfl
    rcases hx with rfl | rfl
    · refine ⟨bI (hldC (-22) z v), ?_⟩
      rw [cond_true, e]
      show (stpC f (-22) (v :: z :: st)).bind (runL f []) = _
      rw [st_2 (by decide)]; rfl
    · refine ⟨bI (hldC (-21) z v), ?_⟩
      rw [cond_true, e]
      show (stpC f (-21) (v :: z :: st)).bind (runL f []) = _
      rw [st_2 (by decide)]; rfl
theorem acL_l {z : Int32} : (acL o z).length ≤ 1 := by
  cases o
  · exact Nat.zero_le _
  · exact Nat.le_refl _
theorem SG_cnd {G : List Nat → List pSt → pRs} (hG : SG G (m + 2)) (hm : m + 2 ≤ 10) : ∀ k o l T A, (cndP (hS b n) (hV b n) G k o l T A).1 = true →
    ∃ L, (cndP (hS b n) (hV b n) G k o l T A).2.2 = A ++ L ∧ ∀ f st y z, st.length ≤ m → ∃ v, runL f (exL L) (acL o y ++ (acL l z ++ st)) = some (v :: st)
  | 0, o, l, T, A, h => by cases h
  | k + 1, o, l, T, A, h => by
    have h1 := SG_one (b := b) (n := n) hG hm T A
    unfold cndP at h ⊢
    generalize oneP (hS b n) (hV b n) G T A = r at h h1 ⊢
    obtain ⟨r1, T1, A1⟩ := r
    dsimp only at h h1 ⊢
    cases r1 with
    | false => cases h
    | true =>
      obtain ⟨L1, e1, e2⟩ := h1 rfl
      simp only [cond_true] at h ⊢
      have run1 : ∀ f st y z, st.length ≤ m → ∃ v, runL f (exL (cA o L1 11)) (acL o y ++ (acL l z ++ st)) = some (v :: (acL l z ++ st)) := by
        intro f st y z hs
        obtain ⟨v, hv⟩ := e2 f (acL o y ++ (acL l z ++ st)) (by
          have a1 := acL_l (o := o) (z := y)
          have a2 := acL_l (o := l) (z := z)
          rw [List.length_append, List.length_append]; omega)
        exact cA_run (Or.inr rfl) hv
      have run2 : ∀ f st y z, st.length ≤ m → ∃ v, runL f (exL (cA l (cA o L1 11) 10)) (acL o y ++ (acL l z ++ st)) = some (v :: st) := by
        intro f st y z hs
        obtain ⟨v, hv⟩ := run1 f st y z hs
        exact cA_run (Or.inl rfl) hv
      by_cases h11 : hS b n T1 = 11
      · rw [if_pos h11] at h ⊢
        obtain ⟨L2, e3, e4⟩ := SG_cnd hG hm k true l T1.tail (cA o A1 11) h
        refine ⟨cA o L1 11 ++ L2, ?_, fun f st y z hs => ?_⟩
        · rw [e3, e1, cA_app, List.append_assoc]
        · obtain ⟨v, hv⟩ := run1 f st y z hs
          obtain ⟨v', hv'⟩ := e4 f st v z hs
          exact ⟨v', by rw [exL_app, runL_app, hv, Option.bind_some]; exact hv'⟩
      · rw [if_neg h11] at h ⊢
        by_cases h10 : hS b n T1 = 10
        · rw [if_pos h10] at h ⊢
          obtain ⟨L2, e3, e4⟩ := SG_cnd hG hm k false true T1.tail (cA l (cA o A1 11) 10) h
          refine ⟨cA l (cA o L1 11) 10 ++ L2, ?_, fun f st y z hs => ?_⟩
          · rw [e3, e1, cA_app, cA_app, List.append_assoc]
          · obtain ⟨v, hv⟩ := run2 f st y z hs
            obtain ⟨v', hv'⟩ := e4 f st y v hs
            exact ⟨v', by rw [exL_app, runL_app, hv, Option.bind_some]; exact hv'⟩
        · rw [if_neg h10] at h ⊢
          refine ⟨cA l (cA o L1 11) 10, ?_, fun f st y z hs => run2 f st y z hs⟩
          show cA l (cA o A1 11) 10 = _
          rw [e1, cA_app, cA_app]
theorem SG_grp : ∀ r m, m + 2 * r ≤ 8 → SG (grpP (hS b n) (hV b n) r) m
  | 0, m, _ => fun T A h => by cases h
  | r + 1, m, hm => by
    intro T A h
    have hc := SG_cnd (m := m) (b := b) (n := n) (SG_grp r (m + 2) (by omega)) (by omega) 200 false false T.tail A
    unfold grpP at h ⊢
    generalize cndP (hS b n) (hV b n) (grpP (hS b n) (hV b n) r) 200 false false T.tail A = q at h hc ⊢
    obtain ⟨q1, T1, A1⟩ := q
    dsimp only at h hc ⊢
    rw [Bool.and_eq_true] at h
    obtain ⟨L, e1, e2⟩ := hc h.1
    exact ⟨L, e1, fun f st hs => e2 f st 0 0 hs⟩
/-- a rule as it may stand -/
def UOK (u : pRu) : Prop := bt u.1 0 5 = true ∧ (u.2.1 = 6 ∨ u.2.1 = 7 ∨ u.2.1 = 8) ∧ bt u.2.2.1 0 99 = true ∧ ∀ f, ∃ st, runL f (exL u.2.2.2) [] = some st ∧ st.length ≤ 1
def sgA : List pRu → List pSt
  | [] => []
  | u :: R => u.2.2.2 ++ sgA R
theorem sgA_app : ∀ R K : List pRu, sgA (R ++ K) = sgA R ++ sgA K
  | [], K => rfl
  | u :: R, K => by
    show u.2.2.2 ++ sgA (R ++ K) = (u.2.2.2 ++ sgA R) ++ sgA K
    rw [sgA_app R K, List.append_assoc]
theorem sem_g {v : pRu} (g : Gt b n T) : Gt b n (semP (hS b n) v T).2 ∧ (semP (hS b n) v T).2.length ≤ T.length ∧ hP n T ≤ hP n (semP (hS b n) v T).2 := by
  unfold semP
  by_cases e : hS b n T = 59
  · rw [if_pos e]; exact ⟨gt_tl g, tl_l, (gt_P g).2.1⟩
  · rw [if_neg e]; exact ⟨g, Nat.le_refl _, Nat.le_refl _⟩
theorem semP_u {v v' : pRu} (h : (semP (hS b n) v T).1 = some v') : v' = v := by
  unfold semP at h
  by_cases e : hS b n T = 59
  · rw [if_pos e] at h; cases h; rfl
  · rw [if_neg e] at h; cases h
theorem dee_g (g : Gt b n T) : (Gt b n (deeP (hS b n) (hV b n) c T A).2 ∧ (deeP (hS b n) (hV b n) c T A).2.length ≤ T.length ∧ hP n T ≤ hP n (deeP (hS b n) (hV b n) c T A).2)
    ∧ ∀ v, (deeP (hS b n) (hV b n) c T A).1 = some v → v.1 = c ∧ (v.2.1 = 6 ∨ v.2.1 = 7 ∨ v.2.1 = 8) ∧ bt v.2.2.1 0 99 = true ∧ v.2.2.2 = A := by
  have g1 := gt_tl g
  have g2 := gt_tl g1
  have p1 := gt_P g
  have p2 := gt_P g1
  have l1 := tl_l (T := T)
  have l2 := tl_l (T := T.tail)
  unfold deeP
  by_cases h8 : hS b n T = 8
  · rw [if_pos h8]
    have := sem_g (v := (c, 8, 0, A)) g1
    refine ⟨⟨this.1, by omega, by omega⟩, fun v hv => ?_⟩
    rw [semP_u hv]
    exact ⟨rfl, Or.inr (Or.inr rfl), (by show bt (0 : Int32) 0 99 = true; decide), rfl⟩
  · rw [if_neg h8]
    by_cases h67 : hS b n T = 6 ∨ hS b n T = 7
    · rw [if_pos h67]
      by_cases h18 : hS b n T.tail = 18 ∧ hV b n T.tail ≤ 99
      · rw [if_pos h18]
        have := sem_g (v := (c, hS b n T, hV b n T.tail, A)) g2
        refine ⟨⟨this.1, by omega, by omega⟩, fun v hv => ?_⟩
        rw [semP_u hv]
        refine ⟨rfl, by rcases h67 with q | q; exact Or.inl q; exact Or.inr (Or.inl q), ?_, rfl⟩
        have hv0 : 0 ≤ (hV b n T.tail).toInt := by
          have e := h18.1
          generalize T.tail = K at e ⊢
          cases K with
          | nil => exact absurd e (by show ¬ (19 : Int32) = 18; decide)
          | cons p K => exact (va_18 (show srF b n p = 18 from e)).2.1
        have h99 := Int32.le_iff_toInt_le.mp h18.2
        exact bt_iff.mpr ⟨hv0, h99⟩
      · rw [if_neg h18]; exact ⟨⟨g1, l1, p1.2.1⟩, fun v hv => by cases hv⟩
    · rw [if_neg h67]; exact ⟨⟨g, Nat.le_refl _, Nat.le_refl _⟩, fun v hv => by cases hv⟩
theorem rul_g {q : Nat} (c e : Nat) (g : Gt b n T) (h1 : c ≤ hP n T) (h2 : e ≤ hP n T) : (Gt b n (rulP (hS b n) (hV b n) q T).2 ∧ (rulP (hS b n) (hV b n) q T).2.length ≤ T.length ∧ hP n T ≤ hP n (rulP (hS b n) (hV b n) q T).2)
    ∧ ∀ v, (rulP (hS b n) (hV b n) q T).1 = some v → UOK v ∧ q < 8 ∧ 2 * v.2.2.2.length + c ≤ hP n (rulP (hS b n) (hV b n) q T).2 ∧ (exL v.2.2.2).length + e ≤ hP n (rulP (hS b n) (hV b n) q T).2 := by
  have g1 := gt_tl g
  have g2 := gt_tl g1
  have p1 := gt_P g
  have p2 := gt_P g1
  have l1 := tl_l (T := T)
  have l2 := tl_l (T := T.tail)
  unfold rulP
  by_cases h0 : q < 8 ∧ bt (hS b n T) 0 5 = true
  · rw [if_pos h0]
    by_cases h9 : hS b n T.tail = 9
    · rw [if_pos h9]
      have hc := GB_cnd (b := b) (n := n) (GB_grp 3) 200 false false T.tail.tail [] c e g2 (by unfold o2; simp; omega) (by unfold o2; simp [exL]; omega)
      have hs := SG_cnd (b := b) (n := n) (m := 0) (G := grpP (hS b n) (hV b n) 3) (SG_grp 3 2 (by omega)) (by omega) 200 false false T.tail.tail []
      generalize cndP (hS b n) (hV b n) (grpP (hS b n) (hV b n) 3) 200 false false T.tail.tail [] = r at hc hs ⊢
      obtain ⟨r1, T1, A1⟩ := r
      obtain ⟨⟨c1, c2, c3⟩, c4, c5⟩ := hc
      dsimp only at c1 c2 c3 c4 c5 hs ⊢
      cases r1 with
      | false => exact ⟨⟨c1, by show T1.length ≤ _; omega, by show _ ≤ hP n T1; omega⟩, fun v hv => by cases hv⟩
      | true =>
        obtain ⟨L, e1, e2⟩ := hs rfl
        have hd := dee_g (c := hS b n T) (A := A1) c1
        refine ⟨⟨hd.1.1, by have := hd.1.2.1; simp only [cond_true]; omega, by have := hd.1.2.2; simp only [cond_true]; omega⟩, fun v hv => ?_⟩
        obtain ⟨d1, d2, d3, d4⟩ := hd.2 v hv
        have := hd.1.2.2
        refine ⟨⟨by rw [d1]; exact h0.2, d2, d3, fun f => ?_⟩, h0.1, by rw [d4]; simp only [cond_true]; omega, by rw [d4]; simp only [cond_true]; omega⟩
        obtain ⟨w, hw⟩ := e2 f [] 0 0 (by simp)
        refine ⟨[w], ?_, by simp⟩
        rw [d4, e1]
        exact hw
    · rw [if_neg h9]
      have hd := dee_g (c := hS b n T) (A := []) g1
      refine ⟨⟨hd.1.1, by have := hd.1.2.1; omega, by have := hd.1.2.2; omega⟩, fun v hv => ?_⟩
      obtain ⟨d1, d2, d3, d4⟩ := hd.2 v hv
      have := hd.1.2.2
      refine ⟨⟨by rw [d1]; exact h0.2, d2, d3, fun f => ?_⟩, h0.1, by rw [d4]; simp; omega, by rw [d4]; simp [exL]; omega⟩
      rw [d4]
      exact ⟨[], rfl, by simp⟩
  · rw [if_neg h0]; exact ⟨⟨g, Nat.le_refl _, Nat.le_refl _⟩, fun v hv => by cases hv⟩
end ParseB
