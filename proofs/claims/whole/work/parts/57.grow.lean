/-! the cells grow; answers made -/
/-- how much a cell holds -/
def kz (q : Nat × Nat) : Nat := match q.1 with | 0 => q.2 | 1 => q.2 | 2 => q.2 | 3 => q.2 | _ => nfl q.2
theorem kz_a (x : Int32) : kz (4, kcl x) ≤ 100 := by
  unfold kcl
  split
  · decide
  · split
    · decide
    · split
      · decide
      · split <;> decide
def dU (D : Nat → Nat × Nat) (a : Nat) (q : Nat × Nat) : Nat → Nat × Nat := fun b => if b = a then q else D b
section Grow
variable {X : mX} {d : Nat} {D : Nat → Nat × Nat} {I : Nat → Nat → Int32} {P : Nat → Nat → Option Nat} {N : Nat} {h : mH} {s s' g S r f f' F c : Nat → Int32} {J J' I' : Nat → Nat → Int32} {D' : Nat → Nat × Nat} {P' : Nat → Nat → Option Nat} {N' : Nat} {ra : Nat → Nat} {L : List Nat} {m : Int} {i j k n p q t : Nat} {x y v w a b e z : Int32}
theorem dU_s {u : Nat × Nat} : dU D p u p = u := if_pos rfl
theorem dU_o {u : Nat × Nat} (h : q ≠ p) : dU D p u q = D q := if_neg h
theorem bKk_of (h : 80 ≤ q → D' q = D q) : bKk D' q = bKk D q := by
  unfold bKk
  cases hb : Nat.blt q 80 with
  | true => rfl
  | false =>
    refine h ?_
    rcases Nat.lt_or_ge q 80 with h1 | h1
    · rw [Nat.blt_eq.mpr h1] at hb; cases hb
    · exact h1
theorem Mh_of (hD : ∀ a, 80 ≤ a → a < 80 + N → D' a = D a) (hI : ∀ a, a < 80 + N → I' a = I a) (hP : ∀ a, a < 80 + N → P' a = P a) : Mh D' I' P' N = Mh D I P N := by
  unfold Mh
  refine List.map_congr_left (fun a ha => ?_)
  have h : a < 80 + N := List.mem_range.mp ha
  unfold cE
  rw [bKk_of (fun h8 => hD a h8 h), hI a h, hP a h]
theorem Mh_app {u : Nat × Nat} {v : mE} (hv : cEk (80 + N) r (P (80 + N)) u = v) : Mh D I P N ++ [v] = Mh (dU D (80 + N) u) (u2r I (80 + N) r) P (N + 1) := by
  have e1 : Mh (dU D (80 + N) u) (u2r I (80 + N) r) P N = Mh D I P N := Mh_of (fun a _ h => dU_o (by omega)) (fun a h => u2r_o (by omega)) (fun _ _ => rfl)
  rw [← e1]
  unfold Mh
  rw [show 80 + (N + 1) = 80 + N + 1 from rfl, List.range_succ, List.map_append]
  refine congrArg (_ ++ ·) ?_
  show [v] = [cE _ _ _ (80 + N)]
  unfold cE
  rw [bKk_dyn (by omega), dU_s, u2r_s, hv]
theorem Mh_ans (k : Nat) (hk : isAns k = true) : Mh D I P N ++ [.inr (k, pD k)] = Mh (dU D (80 + N) (4, k)) (u2r I (80 + N) (fun _ => 0)) P (N + 1) := by
  refine Mh_app ?_
  rcases isAns_cases hk with rfl | rfl | rfl | rfl | rfl <;> rfl
theorem u2_rr : u2 (u2r I p r) p k x = u2r I p (upd r k x) := by
  funext b
  by_cases hb : b = p
  · subst hb; rw [u2_s, u2r_s, u2r_s]
  · rw [u2_o hb, u2r_o hb, u2r_o hb]
theorem dAns (hk : isAns k = true) : AnsAt (dU D (80 + N) (4, k)) (N + 1) (80 + N) := ⟨by omega, by omega, k, dU_s, hk⟩
def mkA (k x : Int32) : Nat → Int32 := upd (upd (fun _ => 0) 0 k) 1 x
theorem C_278 (hA : AnsAt D N p) : Rn X d 278 0 [.ref p, .int x, .int y] [] (Mh D (u2r I p r) P N) = some ([], Mh D (u2r I p (upd (upd r 0 x) 1 y)) P N) := by
  simp only [B278_0, WRa hA, Option.bind_some, List.append_nil, List.nil_append, List.cons_append, cond_true, cond_false, if_true, if_false, ite_true, ite_false, reduceIte, IC, bI_0, bI_1, bF, Bool.not_eq_false, Bool.not_eq_true, Bool.and_true, Bool.true_and, Bool.and_false, Bool.false_and, Bool.true_or, Bool.or_true, Bool.or_false, Bool.false_or, Bool.not_true, Bool.not_false, decide_true, decide_false, not_true_eq_false, not_false_eq_true, eq_self, Bool.true_eq_false, Bool.false_eq_true, u2_rr]
theorem k5 (h : bt x 1 5 = true) : x = 1 ∨ x = 2 ∨ x = 3 ∨ x = 4 ∨ x = 5 := by
  have h2 := bt_iff.mp h
  rw [← Int32.toInt_inj, ← Int32.toInt_inj, ← Int32.toInt_inj, ← Int32.toInt_inj, ← Int32.toInt_inj]
  show x.toInt = 1 ∨ x.toInt = 2 ∨ x.toInt = 3 ∨ x.toInt = 4 ∨ x.toInt = 5
  omega
theorem C_make (hk : bt x 1 5 = true) : Rn X (d + 3) 279 0 [.int x, .int y] [] (Mh D I P N) = some ([.ref (80 + N)], Mh (dU D (80 + N) (4, kcl x)) (u2r I (80 + N) (mkA x y)) P (N + 1)) := by
  rcases k5 hk with rfl | rfl | rfl | rfl | rfl
  · rw [B279_0, if_pos rfl, Mh_ans 8 rfl, Mh_len]
    simp only [B100_0, C_278 (dAns (k := 8) rfl), Option.bind_some, List.append_nil, List.nil_append, List.cons_append, cond_true, cond_false, if_true, if_false, ite_true, ite_false, reduceIte, IC, bI_0, bI_1, bF, Bool.not_eq_false, Bool.not_eq_true, Bool.and_true, Bool.true_and, Bool.and_false, Bool.false_and, Bool.true_or, Bool.or_true, Bool.or_false, Bool.false_or, Bool.not_true, Bool.not_false, decide_true, decide_false, not_true_eq_false, not_false_eq_true, eq_self, Bool.true_eq_false, Bool.false_eq_true, B100_6, B279_40]
    rfl
  · rw [B279_0, if_neg (by decide), if_pos rfl, Mh_ans 1 rfl, Mh_len]
    simp only [B3_0, C_278 (dAns (k := 1) rfl), Option.bind_some, List.append_nil, List.nil_append, List.cons_append, cond_true, cond_false, if_true, if_false, ite_true, ite_false, reduceIte, IC, bI_0, bI_1, bF, Bool.not_eq_false, Bool.not_eq_true, Bool.and_true, Bool.true_and, Bool.and_false, Bool.false_and, Bool.true_or, Bool.or_true, Bool.or_false, Bool.false_or, Bool.not_true, Bool.not_false, decide_true, decide_false, not_true_eq_false, not_false_eq_true, eq_self, Bool.true_eq_false, Bool.false_eq_true, B3_6, B279_50]
    rfl
  · rw [B279_0, if_neg (by decide), if_neg (by decide), if_pos rfl, Mh_ans 7 rfl, Mh_len]
    simp only [B96_0, B3_0, C_278 (dAns (k := 7) rfl), Option.bind_some, List.append_nil, List.nil_append, List.cons_append, cond_true, cond_false, if_true, if_false, ite_true, ite_false, reduceIte, IC, bI_0, bI_1, bF, Bool.not_eq_false, Bool.not_eq_true, Bool.and_true, Bool.true_and, Bool.and_false, Bool.false_and, Bool.true_or, Bool.or_true, Bool.or_false, Bool.false_or, Bool.not_true, Bool.not_false, decide_true, decide_false, not_true_eq_false, not_false_eq_true, eq_self, Bool.true_eq_false, Bool.false_eq_true, B3_6, B96_6, B279_59]
    rfl
  · rw [B279_0, if_neg (by decide), if_neg (by decide), if_neg (by decide), if_pos rfl, Mh_ans 0 rfl, Mh_len]
    simp only [B0_0, C_278 (dAns (k := 0) rfl), Option.bind_some, List.append_nil, List.nil_append, List.cons_append, cond_true, cond_false, if_true, if_false, ite_true, ite_false, reduceIte, IC, bI_0, bI_1, bF, Bool.not_eq_false, Bool.not_eq_true, Bool.and_true, Bool.true_and, Bool.and_false, Bool.false_and, Bool.true_or, Bool.or_true, Bool.or_false, Bool.false_or, Bool.not_true, Bool.not_false, decide_true, decide_false, not_true_eq_false, not_false_eq_true, eq_self, Bool.true_eq_false, Bool.false_eq_true, B0_6, B279_69]
    rfl
  · rw [B279_0, if_neg (by decide), if_neg (by decide), if_neg (by decide), if_neg (by decide), Mh_ans 9 rfl, Mh_len]
    simp only [B103_0, B0_0, C_278 (dAns (k := 9) rfl), Option.bind_some, List.append_nil, List.nil_append, List.cons_append, cond_true, cond_false, if_true, if_false, ite_true, ite_false, reduceIte, IC, bI_0, bI_1, bF, Bool.not_eq_false, Bool.not_eq_true, Bool.and_true, Bool.true_and, Bool.and_false, Bool.false_and, Bool.true_or, Bool.or_true, Bool.or_false, Bool.false_or, Bool.not_true, Bool.not_false, decide_true, decide_false, not_true_eq_false, not_false_eq_true, eq_self, Bool.true_eq_false, Bool.false_eq_true, B0_6, B103_6, B279_78]
    rfl
theorem AnsAt.hcl (h : AnsAt D N p) : ∃ c, isAns c = true ∧ hCl (Mh D I P N) p = some c := by
  obtain ⟨h1, h2, c, h3, h4⟩ := h
  exact ⟨c, h4, hCl_Mh h2 ((bKk_dyn h1).trans h3)⟩
theorem wrQ2 {i : Int32} (ha : p < 80 + N) (hK : bKk D p = (2, n)) (hm : mib i n = true) (hv : AnsAt D N q) : hAQ (Mh D I P N) p i q = some (Mh D I (p2 P p i.toNatClampNeg (some q)) N) := by
  obtain ⟨c, h1, h2⟩ := AnsAt.hcl (I := I) (P := P) hv
  have h9 : p2 P p i.toNatClampNeg (some q) p = va_up (P p) i.toNatClampNeg (some q) := if_pos rfl
  have key : (Mh D I P N).set p (.inl (2, n, .inr (.inr (.inr (.inr (va_up (P p) i.toNatClampNeg (some q))))))) = Mh D I (p2 P p i.toNatClampNeg (some q)) N := by
    refine Mh_set ?_ (fun b hb => ⟨rfl, if_neg hb⟩)
    unfold cE
    rw [hK, h9]
    rfl
  unfold hAQ
  rw [Mh_at ha, h2, ← key]
  unfold cE
  rw [hK]
  show (bif Nat.beq 2 2 && mib i n && isAns c then _ else none) = _
  rw [hm, h1]
  rfl
theorem C_put (hA : AnsAt D N p) (h1 : I p 1 = Int32.ofNat i) (h9 : i < 9) : Rn X d 30 0 [.ref 1, .ref p] [] (Mh D I P N) = some ([], Mh D I (p2 P 2 i (some p)) N) := by
  have hm := mib_N (j := i) (n := 9) h9 (by decide)
  have e0 : (Int32.ofNat i).toNatClampNeg = i := iN_cl (by omega)
  have w := wrQ2 (D := D) (I := I) (P := P) (N := N) (n := 9) (p := 2) hN2 rfl hm hA
  rw [e0] at w
  have n9 : ¬ (9 : Int32) ≤ Int32.ofNat i := le_n (l := 9) (n := 9) rfl (by omega) (by omega) (by omega)
  have n0 : ¬ Int32.ofNat i < 0 := iN_neg (by omega)
  simp only [B30_0, RDa hA, Option.bind_some, List.append_nil, List.nil_append, List.cons_append, cond_true, cond_false, if_true, if_false, ite_true, ite_false, reduceIte, IC, bI_0, bI_1, bF, Bool.not_eq_false, Bool.not_eq_true, Bool.and_true, Bool.true_and, Bool.and_false, Bool.false_and, Bool.true_or, Bool.or_true, Bool.or_false, Bool.false_or, Bool.not_true, Bool.not_false, decide_true, decide_false, not_true_eq_false, not_false_eq_true, eq_self, Bool.true_eq_false, Bool.false_eq_true, h1, n0, n9, RDc, w, B30_26]
theorem C_280 (hA : AnsAt D N p) (hB : AnsAt D N q) (hpq : q ≠ p) : Rn X d 280 0 [.ref p, .ref q] [] (Mh D (u2r I p r) P N) = some ([], Mh D (u2r I p (upd (upd (upd (upd r 2 (I q 2)) 3 (I q 3)) 4 (I q 4)) 5 (I q 5))) P N) := by
  simp only [B280_0, RDa hB, WRa hA, Option.bind_some, List.append_nil, List.nil_append, List.cons_append, cond_true, cond_false, if_true, if_false, ite_true, ite_false, reduceIte, IC, bI_0, bI_1, bF, Bool.not_eq_false, Bool.not_eq_true, Bool.and_true, Bool.true_and, Bool.and_false, Bool.false_and, Bool.true_or, Bool.or_true, Bool.or_false, Bool.false_or, Bool.not_true, Bool.not_false, decide_true, decide_false, not_true_eq_false, not_false_eq_true, eq_self, Bool.true_eq_false, Bool.false_eq_true, u2_rr, u2r_o hpq]
theorem RideR.up (hr : RideR s D I P N 1 ra) (hD : ∀ a, 80 ≤ a → a < 80 + N → D' a = D a) (hI : ∀ a, a < 80 + N → I' a = I a) (hN : N ≤ N') : RideR s D' I' P N' 1 ra := by
  obtain ⟨r1, r2, r3, r4, r5, q, hq, hR⟩ := hr
  refine ⟨by rw [hI 1 (by omega)]; exact r1, fun k hk => by rw [hI _ (by omega), hI _ (by omega)]; exact r2 k hk, fun k hk => by rw [hI _ (by omega), hI _ (by omega)]; exact r3 k hk, fun j hj => ?_, r5, q, hq, ?_⟩
  · obtain ⟨q1, ⟨h80, hN2, hd⟩, q3⟩ := r4 j hj
    exact ⟨q1, ⟨h80, by omega, by rw [hD _ h80 hN2]; exact hd⟩, by rw [hI _ hN2]; exact q3⟩
  · obtain ⟨⟨a1, a2, a3, a4, a5⟩, b1, b2⟩ := hR
    have hb : ∀ j, j ≤ 7 → bKk D' (q + j) = bKk D (q + j) := fun j hj => bKk_of (fun h8 => hD _ h8 (by omega))
    refine ⟨⟨a1, by omega, by rw [show q = q + 0 from rfl, hb 0 (by omega)]; exact a3, fun j h1 h2 => by rw [hb j (by omega)]; exact a4 j h1 h2, fun j h1 h2 => by rw [hb j (by omega)]; exact a5 j h1 h2⟩, by rw [hI q (by omega)]; exact b1, fun k hk => ?_⟩
    rw [hI _ (by omega), hI _ (by omega), hI _ (by omega), hI _ (by omega), hI _ (by omega), hI _ (by omega), hI _ (by omega)]
    exact b2 k hk
/-- an answer is put where one was or at the end -/
theorem RideR.put (hr : RideR s D I P N 1 ra) (g : Gd s m) (h9 : i < 9) (hA : ∀ j, j < ctA s' → j = i ∨ j < ctA s) (ho : ∀ j, j ≠ 0 → j < 7 + 5 * i ∨ 7 + 5 * i + 4 < j → s' j = s j) (hD : ∀ a, 80 ≤ a → a < 80 + N → D' a = D a) (hI : ∀ a, a ≠ 1 → a < 80 + N → I' a = I a)
    (h1 : ∀ k, k ≠ 1 → I' 1 k = I 1 k) (h11 : I' 1 1 = s' 0) (hn : AnsR s' D' I' N' i p) (hp : 80 + N ≤ p) (hN : N ≤ N') : RideR s' D' I' (p2 P 2 i (some p)) N' 1 (fun j => if j = i then p else ra j) := by
  have h8 := g.n2.2
  obtain ⟨⟨r1, r4', r5', r6', r7', r8', r13'⟩, r2, r3, r4, r5, q, hq, hR⟩ := hr
  have ht : ∀ j, j ≠ 0 → j < 7 ∨ 52 ≤ j → s' j = s j := fun j h0 hj => ho j h0 (by omega)
  have el : ctL s' = ctL s := by unfold ctL; rw [ht _ (by omega) (by omega)]
  have ee : ctE s' = ctE s := by unfold ctE; rw [ht _ (by omega) (by omega)]
  have en : endV s' = endV s := by unfold endV; rw [el]; exact endF_of (fun j _ => ht _ (by omega) (by omega)) _ _ _ (by omega)
  have hlt : ∀ j, j < ctA s → ra j < 80 + N := fun j hj => (r4 j hj).2.1.2.1
  refine ⟨⟨h11, ?_, ?_, ?_, ?_, ?_, ?_⟩, fun k hk => ?_, fun k hk => ?_, fun j hj => ?_, fun a b ha hb he => ?_, q, ?_, ?_⟩
  · rw [h1 _ (by decide), ht _ (by omega) (by omega)]; exact r4'
  · rw [h1 _ (by decide), en]; exact r5'
  · rw [h1 _ (by decide), ht _ (by omega) (by omega)]; exact r6'
  · rw [h1 _ (by decide), ht _ (by omega) (by omega)]; exact r7'
  · rw [h1 _ (by decide), ht _ (by omega) (by omega)]; exact r8'
  · rw [h1 _ (by decide), ht _ (by omega) (by omega)]; exact r13'
  · rw [el] at hk
    rw [hI _ (by omega) (by omega), hI _ (by omega) (by omega), ht _ (by omega) (by omega), ht _ (by omega) (by omega)]; exact r2 k hk
  · rw [ee] at hk
    rw [hI _ (by omega) (by omega), hI _ (by omega) (by omega), ht _ (by omega) (by omega), ht _ (by omega) (by omega), ht _ (by omega) (by omega)]; exact r3 k hk
  · show p2 P 2 i (some p) 2 j = some (if j = i then p else ra j) ∧ AnsR s' D' I' N' j (if j = i then p else ra j)
    have e2 : p2 P 2 i (some p) 2 = va_up (P 2) i (some p) := if_pos rfl
    rw [e2]
    by_cases hji : j = i
    · subst hji
      rw [va_up_self, if_pos rfl]
      exact ⟨rfl, hn⟩
    · have hj2 : j < ctA s := (hA j hj).resolve_left hji
      have hj9 := g.a hj2
      obtain ⟨q1, ⟨h80, hN2, hd⟩, q2⟩ := r4 j hj2
      rw [va_up_ne _ _ hji, if_neg hji]
      refine ⟨q1, ⟨h80, by omega, ?_⟩, ?_⟩
      · rw [hD _ h80 hN2, ho _ (by omega) (by omega)]; exact hd
      · rw [hI _ (by omega) hN2, ho _ (by omega) (by omega), ho _ (by omega) (by omega), ho _ (by omega) (by omega), ho _ (by omega) (by omega), ho _ (by omega) (by omega)]; exact q2
  · have he : (if a = i then p else ra a) = (if b = i then p else ra b) := he
    by_cases hai : a = i
    · by_cases hbi : b = i
      · rw [hai, hbi]
      · rw [if_pos hai, if_neg hbi] at he
        have := hlt b ((hA b hb).resolve_left hbi); omega
    · have := hlt a ((hA a ha).resolve_left hai)
      by_cases hbi : b = i
      · rw [if_neg hai, if_pos hbi] at he; omega
      · rw [if_neg hai, if_neg hbi] at he
        exact r5 a b ((hA a ha).resolve_left hai) ((hA b hb).resolve_left hbi) he
  · show p2 P 2 i (some p) 1 9 = some q
    rw [show p2 P 2 i (some p) 1 = P 1 from if_neg (by decide)]; exact hq
  · have hR2 := hR.ofs (s' := s') (ht _ (by omega) (by omega)) (fun j hj => ht _ (by omega) (by omega))
    obtain ⟨⟨a1, a2, a3, a4, a5⟩, b1, b2⟩ := hR2
    have hb : ∀ j, j ≤ 7 → bKk D' (q + j) = bKk D (q + j) := fun j hj => bKk_of (fun h8 => hD _ h8 (by omega))
    have hne : ∀ j, j ≤ 7 → q + j ≠ 1 := fun j hj => by have := hR.1.ne hj; omega
    refine ⟨⟨a1, by omega, by rw [show q = q + 0 from rfl, hb 0 (by omega)]; exact a3, fun j h1 h2 => by rw [hb j (by omega)]; exact a4 j h1 h2, fun j h1 h2 => by rw [hb j (by omega)]; exact a5 j h1 h2⟩, by rw [hI q (hne 0 (by omega)) (by omega)]; exact b1, fun k hk => ?_⟩
    rw [hI _ (hne 1 (by omega)) (by omega), hI _ (hne 2 (by omega)) (by omega), hI _ (hne 3 (by omega)) (by omega), hI _ (hne 4 (by omega)) (by omega), hI _ (hne 5 (by omega)) (by omega), hI _ (hne 6 (by omega)) (by omega), hI _ (hne 7 (by omega)) (by omega)]
    exact b2 k hk
/-- a call of the class that makes cells -/
def Cg (X : mX) (y : Nat) (L : List Value) (s : Nat → Int32) (q : Int32 × (Nat → Int32)) : Prop :=
  ∀ d D I P N ra, RideR s D I P N 1 ra → I 31 5 = 0 → ∃ D' I' P' N' ra', Rn X (d + 40) y 0 L [] (Mh D I P N) = some ([.int q.1], Mh D' I' P' N') ∧ RideR q.2 D' I' P' N' 1 ra' ∧ I' 31 5 = 0 ∧ N ≤ N' ∧ N' ≤ N + 1
    ∧ (∀ a, 80 ≤ a → a < 80 + N → D' a = D a) ∧ (∀ a, a < 80 + N → a ≠ 1 → I' a = I a) ∧ (∀ a, a ≠ 2 → P' a = P a) ∧ (∀ i, i < ctA q.2 → (i < ctA s ∧ ra' i = ra i) ∨ 80 + N ≤ ra' i) ∧ ∀ a, 80 + N ≤ a → a < 80 + N' → kz (D' a) ≤ 100
theorem N_ans (g : Gd s m) : Cg X 108 [.ref 0, .int a, .int b, .int e, .int w] s (pAns s a b e w) := by
  intro d D I P N ra hr hl
  have h0 := g.n0
  obtain ⟨⟨e1, -⟩, -⟩ := id hr
  have hid : ∀ q : Int32, ∃ D' I' P' N' ra', some ([Value.int q], Mh D I P N) = some ([Value.int q], Mh D' I' P' N') ∧ RideR s D' I' P' N' 1 ra' ∧ I' 31 5 = 0 ∧ N ≤ N' ∧ N' ≤ N + 1
    ∧ (∀ a, 80 ≤ a → a < 80 + N → D' a = D a) ∧ (∀ a, a < 80 + N → a ≠ 1 → I' a = I a) ∧ (∀ a, a ≠ 2 → P' a = P a) ∧ (∀ i, i < ctA s → (i < ctA s ∧ ra' i = ra i) ∨ 80 + N ≤ ra' i) ∧ ∀ a, 80 + N ≤ a → a < 80 + N' → kz (D' a) ≤ 100 :=
    fun q => ⟨D, I, P, N, ra, rfl, hr, hl, Nat.le_refl _, by omega, fun _ _ _ => rfl, fun _ _ _ => rfl, fun _ _ => rfl, fun i hi => Or.inl ⟨hi, rfl⟩, fun a q1 q2 => by omega⟩
  have f1 : ∀ v, pPrt 1 v = bt v 1 60 := fun v => by unfold pPrt; simp +decide
  have f2 : ∀ v, pPrt 2 v = bt v 0 100 := fun v => by unfold pPrt; simp +decide
  have f3 : ∀ v, pPrt 3 v = bt v 0 9 := fun v => by unfold pPrt; simp +decide
  simp only [B108_0, C_btw, L32, Option.bind_some, List.append_nil, List.nil_append, List.cons_append, cond_true, cond_false, if_true, if_false, ite_true, ite_false, reduceIte, IC, bI_0, bI_1, bF, Bool.not_eq_false, Bool.not_eq_true, Bool.and_true, Bool.true_and, Bool.and_false, Bool.false_and, Bool.true_or, Bool.or_true, Bool.or_false, Bool.false_or, Bool.not_true, Bool.not_false, decide_true, decide_false, not_true_eq_false, not_false_eq_true, eq_self, Bool.true_eq_false, Bool.false_eq_true, B108_6]
  unfold pAns
  cases h1 : bt a 1 5 with
  | false => simp only [Option.bind_some, List.append_nil, List.nil_append, List.cons_append, cond_true, cond_false, if_true, if_false, ite_true, ite_false, reduceIte, IC, bI_0, bI_1, bF, Bool.not_eq_false, Bool.not_eq_true, Bool.and_true, Bool.true_and, Bool.and_false, Bool.false_and, Bool.true_or, Bool.or_true, Bool.or_false, Bool.false_or, Bool.not_true, Bool.not_false, decide_true, decide_false, not_true_eq_false, not_false_eq_true, eq_self, Bool.true_eq_false, Bool.false_eq_true, B108_34]; exact hid (-1)
  | true =>
    simp only [Option.bind_some, List.append_nil, List.nil_append, List.cons_append, cond_true, cond_false, if_true, if_false, ite_true, ite_false, reduceIte, IC, bI_0, bI_1, bF, Bool.not_eq_false, Bool.not_eq_true, Bool.and_true, Bool.true_and, Bool.and_false, Bool.false_and, Bool.true_or, Bool.or_true, Bool.or_false, Bool.false_or, Bool.not_true, Bool.not_false, decide_true, decide_false, not_true_eq_false, not_false_eq_true, eq_self, Bool.true_eq_false, Bool.false_eq_true, C_fit (d := d + 38), f1, B108_14]
    cases h2 : bt b 1 60 with
    | false => simp only [Option.bind_some, List.append_nil, List.nil_append, List.cons_append, cond_true, cond_false, if_true, if_false, ite_true, ite_false, reduceIte, IC, bI_0, bI_1, bF, Bool.not_eq_false, Bool.not_eq_true, Bool.and_true, Bool.true_and, Bool.and_false, Bool.false_and, Bool.true_or, Bool.or_true, Bool.or_false, Bool.false_or, Bool.not_true, Bool.not_false, decide_true, decide_false, not_true_eq_false, not_false_eq_true, eq_self, Bool.true_eq_false, Bool.false_eq_true, B108_34]; exact hid (-1)
    | true =>
      simp only [Option.bind_some, List.append_nil, List.nil_append, List.cons_append, cond_true, cond_false, if_true, if_false, ite_true, ite_false, reduceIte, IC, bI_0, bI_1, bF, Bool.not_eq_false, Bool.not_eq_true, Bool.and_true, Bool.true_and, Bool.and_false, Bool.false_and, Bool.true_or, Bool.or_true, Bool.or_false, Bool.false_or, Bool.not_true, Bool.not_false, decide_true, decide_false, not_true_eq_false, not_false_eq_true, eq_self, Bool.true_eq_false, Bool.false_eq_true, C_fit (d := d + 38), f2, B108_22]
      cases h3 : bt e 0 100 with
      | false => simp only [Option.bind_some, List.append_nil, List.nil_append, List.cons_append, cond_true, cond_false, if_true, if_false, ite_true, ite_false, reduceIte, IC, bI_0, bI_1, bF, Bool.not_eq_false, Bool.not_eq_true, Bool.and_true, Bool.true_and, Bool.and_false, Bool.false_and, Bool.true_or, Bool.or_true, Bool.or_false, Bool.false_or, Bool.not_true, Bool.not_false, decide_true, decide_false, not_true_eq_false, not_false_eq_true, eq_self, Bool.true_eq_false, Bool.false_eq_true, B108_34]; exact hid (-1)
      | true =>
        simp only [Option.bind_some, List.append_nil, List.nil_append, List.cons_append, cond_true, cond_false, if_true, if_false, ite_true, ite_false, reduceIte, IC, bI_0, bI_1, bF, Bool.not_eq_false, Bool.not_eq_true, Bool.and_true, Bool.true_and, Bool.and_false, Bool.false_and, Bool.true_or, Bool.or_true, Bool.or_false, Bool.false_or, Bool.not_true, Bool.not_false, decide_true, decide_false, not_true_eq_false, not_false_eq_true, eq_self, Bool.true_eq_false, Bool.false_eq_true, C_fit (d := d + 38), f3, B108_31]
        cases h4 : bt w 0 9 with
        | false => simp only [Option.bind_some, List.append_nil, List.nil_append, List.cons_append, cond_true, cond_false, if_true, if_false, ite_true, ite_false, reduceIte, IC, bI_0, bI_1, bF, Bool.not_eq_false, Bool.not_eq_true, Bool.and_true, Bool.true_and, Bool.and_false, Bool.false_and, Bool.true_or, Bool.or_true, Bool.or_false, Bool.false_or, Bool.not_true, Bool.not_false, decide_true, decide_false, not_true_eq_false, not_false_eq_true, eq_self, Bool.true_eq_false, Bool.false_eq_true, B108_34]; exact hid (-1)
        | true =>
          simp only [Option.bind_some, List.append_nil, List.nil_append, List.cons_append, cond_true, cond_false, if_true, if_false, ite_true, ite_false, reduceIte, IC, bI_0, bI_1, bF, Bool.not_eq_false, Bool.not_eq_true, Bool.and_true, Bool.true_and, Bool.and_false, Bool.false_and, Bool.true_or, Bool.or_true, Bool.or_false, Bool.false_or, Bool.not_true, Bool.not_false, decide_true, decide_false, not_true_eq_false, not_false_eq_true, eq_self, Bool.true_eq_false, Bool.false_eq_true, RDc, B29_0, e1]
          by_cases h9 : s 0 = 9
          · have hn : ¬ (9 : Int32) < 9 := by decide
            simp only [h9, hn, Option.bind_some, List.append_nil, List.nil_append, List.cons_append, cond_true, cond_false, if_true, if_false, ite_true, ite_false, reduceIte, IC, bI_0, bI_1, bF, Bool.not_eq_false, Bool.not_eq_true, Bool.and_true, Bool.true_and, Bool.and_false, Bool.false_and, Bool.true_or, Bool.or_true, Bool.or_false, Bool.false_or, Bool.not_true, Bool.not_false, decide_true, decide_false, not_true_eq_false, not_false_eq_true, eq_self, Bool.true_eq_false, Bool.false_eq_true, B108_48]; exact hid (-2)
          · have hi : ctA s < 9 := by
              rcases Nat.lt_or_ge (ctA s) 9 with q | q
              · exact q
              · exact absurd (show s 0 = 9 by rw [h0.1, show ctA s = 9 by omega]; rfl) h9
            have hlt : s 0 < 9 := by rw [h0.1, show (9 : Int32) = Int32.ofNat 9 from rfl, iN_lt (by omega) (by decide)]; exact hi
            have hA : AnsAt (dU D (80 + N) (4, kcl a)) (N + 1) (80 + N) := dAns (kcl_ans a)
            have hx : ∀ j, j ≠ 0 → j < 7 + 5 * ctA s ∨ 7 + 5 * ctA s + 4 < j → ansS s a b e w j = s j := fun j q0 q1 => by
              unfold ansS
              rw [upd_o q0, upd_o (by omega), upd_o (by omega), upd_o (by omega), upd_o (by omega), upd_o (by omega)]
            have x0 : ansS s a b e w 0 = s 0 + 1 := upd_s
            have y0 : ansS s a b e w (7 + 5 * ctA s) = a := by
              unfold ansS
              rw [upd_o (by omega), upd_o (by omega), upd_o (by omega), upd_o (by omega), upd_o (by omega), upd_s]
            have y1 : ansS s a b e w (7 + 5 * ctA s + 1) = b := by
              unfold ansS
              rw [upd_o (by omega), upd_o (by omega), upd_o (by omega), upd_o (by omega), upd_s]
            have y2 : ansS s a b e w (7 + 5 * ctA s + 2) = e := by
              unfold ansS
              rw [upd_o (by omega), upd_o (by omega), upd_o (by omega), upd_s]
            have y3 : ansS s a b e w (7 + 5 * ctA s + 3) = w := by
              unfold ansS
              rw [upd_o (by omega), upd_o (by omega), upd_s]
            have y4 : ansS s a b e w (7 + 5 * ctA s + 4) = 0 := by
              unfold ansS
              rw [upd_o (by omega), upd_s]
            simp only [h9, hlt, Option.bind_some, List.append_nil, List.nil_append, List.cons_append, cond_true, cond_false, if_true, if_false, ite_true, ite_false, reduceIte, IC, bI_0, bI_1, bF, Bool.not_eq_false, Bool.not_eq_true, Bool.and_true, Bool.true_and, Bool.and_false, Bool.false_and, Bool.true_or, Bool.or_true, Bool.or_false, Bool.false_or, Bool.not_true, Bool.not_false, decide_true, decide_false, not_true_eq_false, not_false_eq_true, eq_self, Bool.true_eq_false, Bool.false_eq_true]
            generalize ansS s a b e w = s' at hx x0 y0 y1 y2 y3 y4
            have cA : ctA s' = ctA s + 1 := by
              have : s' 0 = Int32.ofNat (ctA s + 1) := by rw [x0, h0.1, iN_succ]
              unfold ctA at this ⊢
              rw [this, iN_cl (by unfold ctA at hi; omega)]
            generalize hI' : u2 (u2r I (80 + N) (upd (upd (upd (mkA a (s 0)) 2 b) 3 e) 4 w)) 1 1 (s 0 + 1) = I'
            have ip : I' (80 + N) = upd (upd (upd (mkA a (s 0)) 2 b) 3 e) 4 w := by rw [← hI', u2_o (by omega), u2r_s]
            have i1 : I' 1 = upd (I 1) 1 (s 0 + 1) := by rw [← hI', u2_s, u2r_o (by omega)]
            have io : ∀ c, c ≠ 1 → c < 80 + N → I' c = I c := fun c q1 q2 => by rw [← hI', u2_o q1, u2r_o (by omega)]
            have p0 : I' (80 + N) 0 = a := by rw [ip]; rfl
            have p1 : I' (80 + N) 1 = s 0 := by rw [ip]; rfl
            have p1' : I' (80 + N) 1 = Int32.ofNat (ctA s) := by rw [p1]; exact h0.1
            refine ⟨dU D (80 + N) (4, kcl a), I', p2 P 2 (ctA s) (some (80 + N)), N + 1, fun j => if j = ctA s then 80 + N else ra j, ?_, ?_, ?_, by omega, by omega, fun c _ q2 => dU_o (by omega), fun c q1 q2 => io c q2 q1, fun c q => if_neg q, ?_, fun c q1 q2 => (by rw [show c = 80 + N by omega, dU_s]; exact kz_a _)⟩
            · have hput := C_put (X := X) (d := d + 38) (D := dU D (80 + N) (4, kcl a)) (P := P) hA p1' hi
              rw [C_make (d := d + 35) h1]
              simp only [Option.bind_some, List.append_nil, List.nil_append, List.cons_append, cond_true, cond_false, if_true, if_false, ite_true, ite_false, reduceIte, IC, bI_0, bI_1, bF, Bool.not_eq_false, Bool.not_eq_true, Bool.and_true, Bool.true_and, Bool.and_false, Bool.false_and, Bool.true_or, Bool.or_true, Bool.or_false, Bool.false_or, Bool.not_true, Bool.not_false, decide_true, decide_false, not_true_eq_false, not_false_eq_true, eq_self, Bool.true_eq_false, Bool.false_eq_true, B29_20, WRa hA, u2_rr, RDc, u2r_o (show 1 ≠ 80 + N by omega), e1, WRc, IC]
              rw [hI']
              simp only [hput, Option.bind_some, List.append_nil, List.nil_append, List.cons_append, cond_true, cond_false, if_true, if_false, ite_true, ite_false, reduceIte, IC, bI_0, bI_1, bF, Bool.not_eq_false, Bool.not_eq_true, Bool.and_true, Bool.true_and, Bool.and_false, Bool.false_and, Bool.true_or, Bool.or_true, Bool.or_false, Bool.false_or, Bool.not_true, Bool.not_false, decide_true, decide_false, not_true_eq_false, not_false_eq_true, eq_self, Bool.true_eq_false, Bool.false_eq_true, B29_57, RDa hA, p1, B108_48]
            · refine hr.put g hi (fun j hj => by rw [cA] at hj; omega) hx (fun c _ q2 => dU_o (by omega)) io (fun k hk => by rw [i1, upd_o hk]) (by rw [i1, upd_s, x0]) ⟨⟨by omega, by omega, ?_⟩, ?_, p1', ?_, ?_, ?_, ?_⟩ (Nat.le_refl _) (by omega)
              · rw [dU_s, y0]
              · rw [p0, y0]
              · rw [ip, y1]; rfl
              · rw [ip, y2]; rfl
              · rw [ip, y3]; rfl
              · rw [ip, y4]; rfl
            · rw [io 31 (by decide) (by omega)]; exact hl
            · intro j hj
              show (j < ctA s ∧ (if j = ctA s then 80 + N else ra j) = ra j) ∨ 80 + N ≤ (if j = ctA s then 80 + N else ra j)
              have hj : j < ctA s' := hj
              rw [cA] at hj
              by_cases hjc : j = ctA s
              · right; rw [if_pos hjc]; exact Nat.le_refl _
              · left; rw [if_neg hjc]; exact ⟨by omega, rfl⟩
theorem N_111 (hA : AnsAt D N p) {l3 : Nat} : Rn X (d + 1) 111 32 [.ref 0, .int a, .int x, .ref l3, U_] [.ref p] (Mh D I P N) = (Rn X d 280 0 [.ref p, .ref l3] [] (Mh D I P N)).bind fun z1 => Rn X (d + 1) 111 40 [.ref 0, .int a, .int x, .ref l3, .ref p] (z1.1 ++ []) z1.2 := by
  obtain ⟨c, h1, h2⟩ := AnsAt.hcl (I := I) (P := P) hA
  rcases isAns_cases h1 with rfl | rfl | rfl | rfl | rfl
  · exact B111_32_0 h2
  · exact B111_32_1 h2
  · exact B111_32_7 h2
  · exact B111_32_8 h2
  · exact B111_32_9 h2
theorem AnsAt.up (h : AnsAt D N p) (hD : ∀ a, 80 ≤ a → a < 80 + N → D' a = D a) (hN : N ≤ N') : AnsAt D' N' p := by
  obtain ⟨h1, h2, c, h3, h4⟩ := h
  exact ⟨h1, by omega, c, by rw [hD p h1 h2]; exact h3, h4⟩
theorem N_rem (g : Gd s m) : Cg X 111 [.ref 0, .int a, .int x, U_, U_] s (pRem s a x) := by
  intro d D I P N ra hr hl
  have hid : ∀ q : Int32, ∃ D' I' P' N' ra', some ([Value.int q], Mh D I P N) = some ([Value.int q], Mh D' I' P' N') ∧ RideR s D' I' P' N' 1 ra' ∧ I' 31 5 = 0 ∧ N ≤ N' ∧ N' ≤ N + 1
    ∧ (∀ a, 80 ≤ a → a < 80 + N → D' a = D a) ∧ (∀ a, a < 80 + N → a ≠ 1 → I' a = I a) ∧ (∀ a, a ≠ 2 → P' a = P a) ∧ (∀ i, i < ctA s → (i < ctA s ∧ ra' i = ra i) ∨ 80 + N ≤ ra' i) ∧ ∀ a, 80 + N ≤ a → a < 80 + N' → kz (D' a) ≤ 100 :=
    fun q => ⟨D, I, P, N, ra, rfl, hr, hl, Nat.le_refl _, by omega, fun _ _ _ => rfl, fun _ _ _ => rfl, fun _ _ => rfl, fun i hi => Or.inl ⟨hi, rfl⟩, fun a q1 q2 => by omega⟩
  rw [B111_0]
  simp only [RDc, Option.bind_some, List.append_nil, List.nil_append, List.cons_append, cond_true, cond_false, if_true, if_false, ite_true, ite_false, reduceIte, IC, bI_0, bI_1, bF, Bool.not_eq_false, Bool.not_eq_true, Bool.and_true, Bool.true_and, Bool.and_false, Bool.false_and, Bool.true_or, Bool.or_true, Bool.or_false, Bool.false_or, Bool.not_true, Bool.not_false, decide_true, decide_false, not_true_eq_false, not_false_eq_true, eq_self, Bool.true_eq_false, Bool.false_eq_true, C_at g hr]
  unfold pRem ansO
  cases hb : isA s a with
  | false => simp only [Option.bind_some, List.append_nil, List.nil_append, List.cons_append, cond_true, cond_false, if_true, if_false, ite_true, ite_false, reduceIte, IC, bI_0, bI_1, bF, Bool.not_eq_false, Bool.not_eq_true, Bool.and_true, Bool.true_and, Bool.and_false, Bool.false_and, Bool.true_or, Bool.or_true, Bool.or_false, Bool.false_or, Bool.not_true, Bool.not_false, decide_true, decide_false, not_true_eq_false, not_false_eq_true, eq_self, Bool.true_eq_false, Bool.false_eq_true, B111_8, oc_none, B111_22]; exact hid (-1)
  | true =>
    obtain ⟨i, hi, rfl⟩ := isA_nat g hb
    have h9 := g.a hi
    have e0 : (Int32.ofNat i).toNatClampNeg = i := iN_cl (by omega)
    have hO := (hr.2.2.2.1 i hi).2
    obtain ⟨⟨h80, hlt, -⟩, a0, a1, a2, a3, a4, a5⟩ := id hO
    simp only [Option.bind_some, List.append_nil, List.nil_append, List.cons_append, cond_true, cond_false, if_true, if_false, ite_true, ite_false, reduceIte, IC, bI_0, bI_1, bF, Bool.not_eq_false, Bool.not_eq_true, Bool.and_true, Bool.true_and, Bool.and_false, Bool.false_and, Bool.true_or, Bool.or_true, Bool.or_false, Bool.false_or, Bool.not_true, Bool.not_false, decide_true, decide_false, not_true_eq_false, not_false_eq_true, eq_self, Bool.true_eq_false, Bool.false_eq_true, e0, B111_8, oc_some, C_btw, L32, B111_19]
    cases hp : bt x 1 5 with
    | false => simp only [Option.bind_some, List.append_nil, List.nil_append, List.cons_append, cond_true, cond_false, if_true, if_false, ite_true, ite_false, reduceIte, IC, bI_0, bI_1, bF, Bool.not_eq_false, Bool.not_eq_true, Bool.and_true, Bool.true_and, Bool.and_false, Bool.false_and, Bool.true_or, Bool.or_true, Bool.or_false, Bool.false_or, Bool.not_true, Bool.not_false, decide_true, decide_false, not_true_eq_false, not_false_eq_true, eq_self, Bool.true_eq_false, Bool.false_eq_true, B111_22]; exact hid (-1)
    | true =>
      have hA : AnsAt (dU D (80 + N) (4, kcl x)) (N + 1) (80 + N) := dAns (kcl_ans x)
      have hB : AnsAt (dU D (80 + N) (4, kcl x)) (N + 1) (ra i) := hO.at.up (fun c _ q2 => dU_o (by omega)) (by omega)
      have hne : ra i ≠ 80 + N := by omega
      have hx : ∀ j, j ≠ 7 + 5 * i → upd s (7 + 5 * i) x j = s j := fun j hj => upd_o hj
      have x0 : upd s (7 + 5 * i) x (7 + 5 * i) = x := upd_s
      simp only [Option.bind_some, List.append_nil, List.nil_append, List.cons_append, cond_true, cond_false, if_true, if_false, ite_true, ite_false, reduceIte, IC, bI_0, bI_1, bF, Bool.not_eq_false, Bool.not_eq_true, Bool.and_true, Bool.true_and, Bool.and_false, Bool.false_and, Bool.true_or, Bool.or_true, Bool.or_false, Bool.false_or, Bool.not_true, Bool.not_false, decide_true, decide_false, not_true_eq_false, not_false_eq_true, eq_self, Bool.true_eq_false, Bool.false_eq_true, RDa hO.at, a1]
      generalize upd s (7 + 5 * i) x = s' at hx x0
      have cA : ctA s' = ctA s := by unfold ctA; rw [hx _ (by omega)]
      generalize hI' : u2r I (80 + N) (upd (upd (upd (upd (mkA x (Int32.ofNat i)) 2 (I (ra i) 2)) 3 (I (ra i) 3)) 4 (I (ra i) 4)) 5 (I (ra i) 5)) = I'
      have ip : I' (80 + N) = upd (upd (upd (upd (mkA x (Int32.ofNat i)) 2 (I (ra i) 2)) 3 (I (ra i) 3)) 4 (I (ra i) 4)) 5 (I (ra i) 5) := by rw [← hI', u2r_s]
      have io : ∀ c, c < 80 + N → I' c = I c := fun c q2 => by rw [← hI', u2r_o (by omega)]
      have p1 : I' (80 + N) 1 = Int32.ofNat i := by rw [ip]; rfl
      refine ⟨dU D (80 + N) (4, kcl x), I', p2 P 2 i (some (80 + N)), N + 1, fun j => if j = i then 80 + N else ra j, ?_, ?_, ?_, by omega, by omega, fun c _ q2 => dU_o (by omega), fun c q1 q2 => io c q1, fun c q => if_neg q, ?_, fun c q1 q2 => (by rw [show c = 80 + N by omega, dU_s]; exact kz_a _)⟩
      · have hput := C_put (X := X) (d := d + 39) (D := dU D (80 + N) (4, kcl x)) (P := P) hA p1 h9
        have h280 := C_280 (X := X) (d := d + 39) (I := I) (P := P) (r := mkA x (Int32.ofNat i)) hA hB hne
        rw [hI'] at h280
        have hr0 : I' (ra i) 0 = s (7 + 5 * i) := by rw [io _ hlt]; exact a0
        rw [C_make (d := d + 36) hp]
        simp only [Option.bind_some, List.append_nil, List.nil_append, List.cons_append, cond_true, cond_false, if_true, if_false, ite_true, ite_false, reduceIte, IC, bI_0, bI_1, bF, Bool.not_eq_false, Bool.not_eq_true, Bool.and_true, Bool.true_and, Bool.and_false, Bool.false_and, Bool.true_or, Bool.or_true, Bool.or_false, Bool.false_or, Bool.not_true, Bool.not_false, decide_true, decide_false, not_true_eq_false, not_false_eq_true, eq_self, Bool.true_eq_false, Bool.false_eq_true, N_111 hA, h280, B111_40, RDc, hput, B111_49, RDa hB, hr0]
      · refine hr.put g h9 (fun j hj => by rw [cA] at hj; exact Or.inr hj) (fun j _ hj => hx j (by omega)) (fun c _ q2 => dU_o (by omega)) (fun c _ q2 => io c q2) (fun k _ => by rw [io 1 (by omega)]) (by rw [io 1 (by omega), hx 0 (by omega)]; exact hr.1.1) ⟨⟨by omega, by omega, ?_⟩, ?_, p1, ?_, ?_, ?_, ?_⟩ (Nat.le_refl _) (by omega)
        · rw [dU_s, x0]
        · rw [ip, x0]; rfl
        · rw [ip, hx _ (by omega)]; exact a2
        · rw [ip, hx _ (by omega)]; exact a3
        · rw [ip, hx _ (by omega)]; exact a4
        · rw [ip, hx _ (by omega)]; exact a5
      · rw [io 31 (by omega)]; exact hl
      · intro j hj
        show (j < ctA s ∧ (if j = i then 80 + N else ra j) = ra j) ∨ 80 + N ≤ (if j = i then 80 + N else ra j)
        have hj : j < ctA s' := hj
        rw [cA] at hj
        by_cases hjc : j = i
        · right; rw [if_pos hjc]; exact Nat.le_refl _
        · left; rw [if_neg hjc]; exact ⟨hj, rfl⟩
end Grow
