/-! the class: conditions and rules as the row has them -/
def FcR (F s : Nat → Int32) (a : Nat) : Prop := F 0 = Int32.ofNat (legN s) ∧ F 1 = moodV s ∧ F 2 = s (7 + 5 * a + 4) ∧ F 3 = s 5 ∧ F 4 = Int32.ofNat a
theorem op_fct {F s : Nat → Int32} {a : Nat} {l : Int32} (hl : bt l (-5) 9999 = true) (hF : FcR F s a) : opV F l = fctV s a l := by
  have h := bt_iff.mp hl
  obtain ⟨f0, f1, f2, f3, f4⟩ := hF
  unfold opV opW fctV
  by_cases h0 : 0 ≤ l.toInt
  · have hlt : (-1) - l < 0 := by rw [(op_b hl).1]; exact h0
    have n1 : ¬ l = -1 := fun e => by rw [e] at h0; exact absurd h0 (by decide)
    have n2 : ¬ l = -2 := fun e => by rw [e] at h0; exact absurd h0 (by decide)
    have n3 : ¬ l = -3 := fun e => by rw [e] at h0; exact absurd h0 (by decide)
    have n4 : ¬ l = -4 := fun e => by rw [e] at h0; exact absurd h0 (by decide)
    have n5 : ¬ l = -5 := fun e => by rw [e] at h0; exact absurd h0 (by decide)
    rw [if_pos hlt, if_neg n1, if_neg n2, if_neg n3, if_neg n4, if_neg n5]
  · have hlt : ¬ (-1) - l < 0 := by rw [(op_b hl).1]; exact h0
    rw [if_neg hlt]
    have hc : l = -1 ∨ l = -2 ∨ l = -3 ∨ l = -4 ∨ l = -5 := by
      rw [← Int32.toInt_inj, ← Int32.toInt_inj, ← Int32.toInt_inj, ← Int32.toInt_inj, ← Int32.toInt_inj]
      show l.toInt = -1 ∨ l.toInt = -2 ∨ l.toInt = -3 ∨ l.toInt = -4 ∨ l.toInt = -5
      omega
    have c1 : ((-1 : Int32) - -1).toNatClampNeg = 0 := by decide
    have c2 : ((-1 : Int32) - -2).toNatClampNeg = 1 := by decide
    have c3 : ((-1 : Int32) - -3).toNatClampNeg = 2 := by decide
    have c4 : ((-1 : Int32) - -4).toNatClampNeg = 3 := by decide
    have c5 : ((-1 : Int32) - -5).toNatClampNeg = 4 := by decide
    rcases hc with rfl | rfl | rfl | rfl | rfl
    · rw [c1, if_pos rfl, f0]
    · rw [c2, if_neg (by decide), if_pos rfl, f1]
    · rw [c3, if_neg (by decide), if_neg (by decide), if_pos rfl, f2]
    · rw [c4, if_neg (by decide), if_neg (by decide), if_neg (by decide), if_pos rfl, f3]
    · rw [c5, if_neg (by decide), if_neg (by decide), if_neg (by decide), if_neg (by decide), if_pos rfl, f4]
theorem sN_mod (b : Bool) (t : List Bool) : sN (b :: t) % 2 = b2n b ∧ sN (b :: t) / 2 = sN t := by
  show (2 * sN t + (bif b then 1 else 0)) % 2 = b2n b ∧ (2 * sN t + (bif b then 1 else 0)) / 2 = sN t
  unfold b2n
  cases b
  · show (2 * sN t + 0) % 2 = 0 ∧ (2 * sN t + 0) / 2 = sN t; omega
  · show (2 * sN t + 1) % 2 = 1 ∧ (2 * sN t + 1) / 2 = sN t; omega
theorem st_top {b : Bool} {t : List Bool} (h : (b :: t).length ≤ 11) : Int32.ofNat (sN (b :: t)) &&& 1 = bI b := by
  rw [(stk_v (sN_b h)).2.2.1, (sN_mod b t).1]; cases b <;> rfl
theorem st_pop {b : Bool} {t : List Bool} (h : (b :: t).length ≤ 11) : Int32.ofNat (sN (b :: t)) >>> (1 &&& 31) = Int32.ofNat (sN t) := by
  rw [(stk_v (sN_b h)).2.2.2.1, (sN_mod b t).2]
theorem st_push {b : Bool} {t : List Bool} (h : t.length ≤ 11) : (Int32.ofNat (sN t) <<< (1 &&& 31)) ||| bI b = Int32.ofNat (sN (b :: t)) := by
  cases b
  · exact (stk_v (sN_b h)).1.2
  · exact (stk_v (sN_b h)).1.1
theorem st_not {b : Bool} {t : List Bool} (h : (b :: t).length ≤ 11) : Int32.ofNat (sN (b :: t)) ^^^ 1 = Int32.ofNat (sN ((!b) :: t)) := by
  rw [(stk_v (sN_b h)).2.1, (sN_mod b t).1]
  cases b
  · rfl
  · show Int32.ofNat (2 * sN t + 1 - 1) = Int32.ofNat (2 * sN t + 0)
    rw [Nat.add_sub_cancel]; rfl
theorem st_or {y x : Bool} {t : List Bool} (h : (y :: x :: t).length ≤ 11) : (Int32.ofNat (sN (y :: x :: t)) >>> (1 &&& 31)) ||| (Int32.ofNat (sN (y :: x :: t)) &&& 1) = Int32.ofNat (sN ((x || y) :: t)) := by
  rw [st_pop h, st_top h]
  have hx := stk_v (sN_b (st := x :: t) (by simp at h ⊢; omega))
  cases y
  · rw [Bool.or_false]; exact hx.2.2.2.2.2.1
  · rw [Bool.or_true]
    refine hx.2.2.2.2.2.2.trans ?_
    rw [(sN_mod x t).1]
    unfold sN b2n
    cases x
    · rfl
    · show Int32.ofNat (2 * sN t + 1 - 1 + 1) = Int32.ofNat (2 * sN t + 1); rfl
theorem st_and {y x : Bool} {t : List Bool} (h : (y :: x :: t).length ≤ 11) : (Int32.ofNat (sN (y :: x :: t)) >>> (1 &&& 31)) &&& ((Int32.ofNat (sN (y :: x :: t)) &&& 1) ||| (-2)) = Int32.ofNat (sN ((x && y) :: t)) := by
  rw [st_pop h, st_top h]
  have hx := stk_v (sN_b (st := x :: t) (by simp at h ⊢; omega))
  cases y
  · rw [Bool.and_false]
    refine hx.2.2.2.2.1.1.trans ?_
    rw [(sN_mod x t).1]
    unfold sN b2n
    cases x
    · rfl
    · show Int32.ofNat (2 * sN t + 1 - 1) = Int32.ofNat (2 * sN t + 0); rw [Nat.add_sub_cancel]; rfl
  · rw [Bool.and_true]; exact hx.2.2.2.2.1.2
def topB : List Bool → Bool
  | [] => true
  | b :: _ => b
section ClsC
variable {X : mX} {d : Nat} {D : Nat → Nat × Nat} {I : Nat → Nat → Int32} {P : Nat → Nat → Option Nat} {N : Nat} {h : mH} {s g S r f F c r5 r6 r7 : Nat → Int32} {ra : Nat → Nat} {m : Int} {i j k n p q : Nat} {x v w a b l fr : Int32}
theorem map2 {stb : List Bool} {y x : Int32} {t : List Int32} (h : stb.map bI = y :: x :: t) : ∃ b c u, stb = b :: c :: u ∧ y = bI b ∧ x = bI c ∧ t = u.map bI := by
  match stb, h with
  | b :: c :: u, h =>
    simp only [List.map_cons, List.cons.injEq] at h
    exact ⟨b, c, u, rfl, h.1.symm, h.2.1.symm, h.2.2.symm⟩
theorem map1 {stb : List Bool} {y : Int32} {t : List Int32} (h : stb.map bI = y :: t) : ∃ b u, stb = b :: u ∧ y = bI b ∧ t = u.map bI := by
  match stb, h with
  | b :: u, h =>
    simp only [List.map_cons, List.cons.injEq] at h
    exact ⟨b, u, rfl, h.1.symm, h.2.symm⟩
theorem cm_hld {sg x y : Int32} (h : sg = 60 ∨ sg = 61 ∨ sg = 62) : hldC (if sg = 60 then -11 else if sg = 61 then -12 else -13) x y = cmV sg x y := by
  rcases h with rfl | rfl | rfl
  · rw [if_pos rfl]; unfold hldC cmV; rw [if_pos rfl, if_pos rfl]
  · rw [if_neg (by decide), if_pos rfl]; unfold hldC cmV; rw [if_neg (by decide), if_pos rfl, if_neg (by decide), if_neg (by decide)]
  · rw [if_neg (by decide), if_neg (by decide)]; unfold hldC cmV; rw [if_neg (by decide), if_neg (by decide), if_pos rfl, if_neg (by decide), if_pos rfl]
theorem C_so1 {till a : Nat} (h : RAt D N q) (hF : FcR (I 13) s a) (ht : till ≤ 100) : ∀ L cf f stb st' l6, stpR (I (q + 5)) (I (q + 6)) (I (q + 7)) cf L → codR c f (exL L) → runC (fctV s a) c f (exL L).length (stb.map bI) = some st' → cf + L.length = till → stb.length ≤ 11 →
    ∃ stb' l6', st' = stb'.map bI ∧ stb'.length ≤ 11 ∧ Rn X (d + 1) 75 6 [.ref q, .int fr, .int (Int32.ofNat till), .ref 13, .int (Int32.ofNat (sN stb)), .int (Int32.ofNat cf), l6] [] (Mh D I P N)
      = Rn X (d + 1) 75 120 [.ref q, .int fr, .int (Int32.ofNat till), .ref 13, .int (Int32.ofNat (sN stb')), .int (Int32.ofNat till), l6'] [] (Mh D I P N)
  | [], cf, f, stb, st', l6, _, _, hr, he, hl => by
    cases hr
    have he' : cf = till := he
    refine ⟨stb, l6, rfl, hl, ?_⟩
    rw [B75_6, if_neg (iN_neg (by omega)), if_pos (by rw [iN_le (by omega) (by omega)]; omega), he']
  | t :: L, cf, f, stb, st', l6, hs, hc, hr, he, hl => by
    obtain ⟨⟨s1, s2, s3⟩, s4, s5⟩ := hs
    rw [List.length_cons] at he
    have hcf : cf < 100 := by omega
    rw [B75_6, if_neg (iN_neg (by omega)), if_neg (by rw [iN_le (by omega) (by omega)]; omega), if_neg (le_n (l := 100) (n := 100) rfl (by omega) (by omega) hcf)]
    rw [(rdR5 h).2.2.2.2.2.2.1, Option.bind_some, rdR100 h (by decide) (by decide) hcf, Option.bind_some, s1]
    rcases s4 with s4 | s4 | s4 | ⟨s4, sl, sr⟩
    · -- or
      have ex : exS t = [-22] := by unfold exS; rw [if_pos s4]
      unfold exL at hc hr
      rw [ex] at hc hr
      have hc1 : c f = -22 ∧ codR c (f + 1) (exL L) := hc
      have hr1 : (stpC (fctV s a) (c f) (stb.map bI)).bind (runC (fctV s a) c (f + 1) (exL L).length) = some st' := hr
      rw [hc1.1] at hr1
      obtain ⟨st1, h1, h2⟩ := Option.bind_eq_some_iff.mp hr1
      unfold stpC at h1
      rw [if_neg (by decide), if_neg (by decide)] at h1
      split at h1
      · next y x u hm =>
        cases h1
        obtain ⟨b1, b2, u1, rfl, rfl, rfl, rfl⟩ := map2 hm
        rw [(hldC_b b2 b1).1] at h2
        obtain ⟨stb', l6', e1, e2, e3⟩ := C_so1 h hF ht L (cf + 1) (f + 1) ((b2 || b1) :: u1) st' (.int (Int32.ofNat (sN (b1 :: b2 :: u1)) &&& 1)) s5 hc1.2 h2 (by omega) (by simp at hl ⊢; omega)
        refine ⟨stb', l6', e1, e2, ?_⟩
        rw [if_pos s4, B75_114, iN_succ, st_or hl]
        exact e3
      · cases h1
    · -- and
      have ex : exS t = [-21] := by unfold exS; rw [if_neg (by rw [s4]; decide), if_pos s4]
      unfold exL at hc hr
      rw [ex] at hc hr
      have hc1 : c f = -21 ∧ codR c (f + 1) (exL L) := hc
      have hr1 : (stpC (fctV s a) (c f) (stb.map bI)).bind (runC (fctV s a) c (f + 1) (exL L).length) = some st' := hr
      rw [hc1.1] at hr1
      obtain ⟨st1, h1, h2⟩ := Option.bind_eq_some_iff.mp hr1
      unfold stpC at h1
      rw [if_neg (by decide), if_neg (by decide)] at h1
      split at h1
      · next y x u hm =>
        cases h1
        obtain ⟨b1, b2, u1, rfl, rfl, rfl, rfl⟩ := map2 hm
        rw [(hldC_b b2 b1).2] at h2
        obtain ⟨stb', l6', e1, e2, e3⟩ := C_so1 h hF ht L (cf + 1) (f + 1) ((b2 && b1) :: u1) st' (.int (Int32.ofNat (sN (b1 :: b2 :: u1)) &&& 1)) s5 hc1.2 h2 (by omega) (by simp at hl ⊢; omega)
        refine ⟨stb', l6', e1, e2, ?_⟩
        rw [if_neg (by rw [s4]; decide), if_pos s4, B75_114, iN_succ, st_and hl]
        exact e3
      · cases h1
    · -- not
      have ex : exS t = [-20] := by unfold exS; rw [if_neg (by rw [s4]; decide), if_neg (by rw [s4]; decide), if_pos s4]
      unfold exL at hc hr
      rw [ex] at hc hr
      have hc1 : c f = -20 ∧ codR c (f + 1) (exL L) := hc
      have hr1 : (stpC (fctV s a) (c f) (stb.map bI)).bind (runC (fctV s a) c (f + 1) (exL L).length) = some st' := hr
      rw [hc1.1] at hr1
      obtain ⟨st1, h1, h2⟩ := Option.bind_eq_some_iff.mp hr1
      unfold stpC at h1
      rw [if_neg (by decide), if_pos rfl] at h1
      split at h1
      · next x u hm =>
        cases h1
        obtain ⟨b1, u1, rfl, rfl, rfl⟩ := map1 hm
        rw [not_b] at h2
        obtain ⟨stb', l6', e1, e2, e3⟩ := C_so1 h hF ht L (cf + 1) (f + 1) ((!b1) :: u1) st' (.int (Int32.ofNat (sN (b1 :: u1)) &&& 1)) s5 hc1.2 h2 (by omega) (by simp at hl ⊢; omega)
        refine ⟨stb', l6', e1, e2, ?_⟩
        rw [if_neg (by rw [s4]; decide), if_neg (by rw [s4]; decide), if_pos s4, B75_114, iN_succ, st_not hl]
        exact e3
      · cases h1
    · -- compares
      have n1 : ¬ t.1 = 10 := by rcases s4 with s4 | s4 | s4 <;> rw [s4] <;> decide
      have n2 : ¬ t.1 = 11 := by rcases s4 with s4 | s4 | s4 <;> rw [s4] <;> decide
      have n3 : ¬ t.1 = 12 := by rcases s4 with s4 | s4 | s4 <;> rw [s4] <;> decide
      have ex : exS t = [t.2.1, t.2.2, if t.1 = 60 then -11 else if t.1 = 61 then -12 else -13] := by unfold exS; rw [if_neg n1, if_neg n2, if_neg n3]
      unfold exL at hc hr
      rw [ex] at hc hr
      obtain ⟨c1, c2, c3, c4⟩ : c f = t.2.1 ∧ c (f + 1) = t.2.2 ∧ c (f + 1 + 1) = (if t.1 = 60 then -11 else if t.1 = 61 then -12 else -13) ∧ codR c (f + 1 + 1 + 1) (exL L) := hc
      have hr1 : (stpC (fctV s a) (c f) (stb.map bI)).bind (fun st => (stpC (fctV s a) (c (f + 1)) st).bind (fun st => (stpC (fctV s a) (c (f + 1 + 1)) st).bind (runC (fctV s a) c (f + 1 + 1 + 1) (exL L).length))) = some st' := hr
      rw [c1, c2, c3] at hr1
      obtain ⟨st1, h1, h2⟩ := Option.bind_eq_some_iff.mp hr1
      obtain ⟨st2, h3, h4⟩ := Option.bind_eq_some_iff.mp h2
      obtain ⟨st3, h5, h6⟩ := Option.bind_eq_some_iff.mp h4
      have bl := bt_iff.mp sl
      have br := bt_iff.mp sr
      have e10 : (-10 : Int32).toInt = -10 := rfl
      unfold stpC at h1 h3 h5
      rw [if_pos (by rw [Int32.lt_iff_toInt_lt, e10]; omega)] at h1 h3
      split at h1
      · next hl1 =>
        cases h1
        split at h3
        · next hl2 =>
          cases h3
          rw [if_neg (by rcases s4 with s4 | s4 | s4 <;> rw [s4] <;> decide), if_neg (by rcases s4 with s4 | s4 | s4 <;> rw [s4] <;> decide)] at h5
          simp only at h5
          cases h5
          rw [cm_hld s4] at h6
          have hlen : stb.length ≤ 10 := by simp at hl2; omega
          have hcm := C_cmp (X := X) (d := d) (P := P) (I := I) (j := cf) h hcf (by rw [s2]; exact sl) (by rw [s3]; exact sr)
          rw [s1, s2, s3, op_fct sl hF, op_fct sr hF] at hcm
          obtain ⟨stb', l6', e1, e2, e3⟩ := C_so1 h hF ht L (cf + 1) (f + 1 + 1 + 1) (cmV t.1 (fctV s a t.2.1) (fctV s a t.2.2) :: stb) st' (.int (Int32.ofNat (sN stb) &&& 1)) s5 c4 h6 (by omega) (by rw [List.length_cons]; omega)
          refine ⟨stb', l6', e1, e2, ?_⟩
          rw [if_neg n1, if_neg n2, if_neg n3, (rdR5 h).2.2.2.2.2.2.2.2.2]
          simp only [hcm, Option.bind_some, List.append_nil, List.nil_append, List.cons_append, cond_true, cond_false, if_true, if_false, ite_true, ite_false, reduceIte, IC, bI_0, bI_1, bF, Bool.not_eq_false, Bool.not_eq_true, Bool.and_true, Bool.true_and, Bool.and_false, Bool.false_and, Bool.true_or, Bool.or_true, Bool.or_false, Bool.false_or, Bool.not_true, Bool.not_false, decide_true, decide_false, not_true_eq_false, not_false_eq_true, eq_self, Bool.true_eq_false, Bool.false_eq_true, B75_111, B75_114, iN_succ, st_push hl]
          exact e3
        · cases h3
      · cases h1
theorem C_so {a e0 : Nat} (h : RAt D N q) (hF : FcR (I 13) s a) (hs : SegR (I (q + 5)) (I (q + 6)) (I (q + 7)) (fun j => s (118 + j)) i j n e0) (hj : j ≤ 100)
    (hr : ∃ st, runC (fctV s a) (fun j => s (118 + j)) n (e0 - n) [] = some st ∧ st.length ≤ 1) :
    Rn X (d + 1) 75 0 [.ref q, .int (Int32.ofNat i), .int (Int32.ofNat j), .ref 13, U_, U_, U_] [] (Mh D I P N) = some ([.int (bI (soV s n e0 a))], Mh D I P N) := by
  obtain ⟨L, h1, h2, h3, h4⟩ := hs
  obtain ⟨st', hr, hlen⟩ := hr
  have hr' : runC (fctV s a) (fun j => s (118 + j)) n (exL L).length (([] : List Bool).map bI) = some st' := by rw [show (exL L).length = e0 - n by omega]; exact hr
  obtain ⟨stb, l6, e1, e2, e3⟩ := C_so1 (X := X) (d := d) (P := P) (fr := Int32.ofNat i) h hF hj L i n [] st' U_ h3 h4 hr' (by omega) (by simp)
  have e3' : Rn X (d + 1) 75 6 [.ref q, .int (Int32.ofNat i), .int (Int32.ofNat j), .ref 13, .int 1, .int (Int32.ofNat i), U_] [] (Mh D I P N) = _ := e3
  rw [B75_0, e3', B75_120]
  have hv : soV s n e0 a = topB stb := by
    unfold soV
    rw [hr]
    match stb, e1 with
    | [], e1 => rw [e1]; rfl
    | b :: t, e1 =>
      have : t = [] := by
        rw [e1] at hlen
        match t with
        | [] => rfl
        | _ :: _ => simp at hlen
      rw [e1, this]
      cases b <;> decide
  rw [hv]
  have hone : ∀ b, (if ¬ bI b = 1 then Rn X (d + 1) 75 133 [.ref q, .int (Int32.ofNat i), .int (Int32.ofNat j), .ref 13, .int (Int32.ofNat (sN stb)), .int (Int32.ofNat j), l6] [.int 0] (Mh D I P N) else Rn X (d + 1) 75 133 [.ref q, .int (Int32.ofNat i), .int (Int32.ofNat j), .ref 13, .int (Int32.ofNat (sN stb)), .int (Int32.ofNat j), l6] [.int 1] (Mh D I P N)) = some ([.int (bI b)], Mh D I P N) := by
    intro b
    cases b
    · rw [if_pos (by decide), B75_133]; rfl
    · rw [if_neg (by decide), B75_133]; rfl
  match stb, e2, hone with
  | [], _, hone =>
    have e9 : Int32.ofNat (sN []) &&& 1 = bI true := by decide
    rw [e9]; exact hone true
  | b :: t, e2, hone =>
    rw [st_top e2]; exact hone b
theorem C_und {k a : Int32} : Rn X d 163 0 [.int k, .int a, U_, U_] [] h = some ([.int (bI (undV k a))], h) := by
  have h1 : ¬ (1 : Int32) = 0 := by decide
  unfold undV
  by_cases k3 : k = 3
  · subst k3
    have k5 : ¬ (3 : Int32) = 5 := by decide
    by_cases a2 : a = 2
    · subst a2
      have e1 : ¬ (3 : Int32) = 2 := by decide
      have e2 : ¬ (2 : Int32) = 0 := by decide
      simp +decide only [B163_0, B163_14, B163_15, B163_30, B163_31, B163_49, B163_54, h1, k5, e1, e2, Option.bind_some, List.append_nil, List.nil_append, List.cons_append, cond_true, cond_false, if_true, if_false, ite_true, ite_false, reduceIte, IC, bI_0, bI_1, bF, Bool.not_eq_false, Bool.not_eq_true, Bool.and_true, Bool.true_and, Bool.and_false, Bool.false_and, Bool.true_or, Bool.or_true, Bool.or_false, Bool.false_or, Bool.not_true, Bool.not_false, decide_true, decide_false, not_true_eq_false, not_false_eq_true, eq_self, Bool.true_eq_false, Bool.false_eq_true]; rfl
    · by_cases a0 : a = 0
      · subst a0; simp +decide only [B163_0, B163_14, B163_15, B163_30, B163_31, B163_49, B163_54, h1, k5, a2, Option.bind_some, List.append_nil, List.nil_append, List.cons_append, cond_true, cond_false, if_true, if_false, ite_true, ite_false, reduceIte, IC, bI_0, bI_1, bF, Bool.not_eq_false, Bool.not_eq_true, Bool.and_true, Bool.true_and, Bool.and_false, Bool.false_and, Bool.true_or, Bool.or_true, Bool.or_false, Bool.false_or, Bool.not_true, Bool.not_false, decide_true, decide_false, not_true_eq_false, not_false_eq_true, eq_self, Bool.true_eq_false, Bool.false_eq_true]; rfl
      · by_cases a3 : (3 : Int32) = a
        · subst a3; simp +decide only [B163_0, B163_14, B163_15, B163_30, B163_31, B163_49, B163_54, h1, k5, a2, Option.bind_some, List.append_nil, List.nil_append, List.cons_append, cond_true, cond_false, if_true, if_false, ite_true, ite_false, reduceIte, IC, bI_0, bI_1, bF, Bool.not_eq_false, Bool.not_eq_true, Bool.and_true, Bool.true_and, Bool.and_false, Bool.false_and, Bool.true_or, Bool.or_true, Bool.or_false, Bool.false_or, Bool.not_true, Bool.not_false, decide_true, decide_false, not_true_eq_false, not_false_eq_true, eq_self, Bool.true_eq_false, Bool.false_eq_true]; rfl
        · simp +decide only [B163_0, B163_14, B163_15, B163_30, B163_31, B163_49, B163_54, h1, k5, a2, a0, a3, Option.bind_some, List.append_nil, List.nil_append, List.cons_append, cond_true, cond_false, if_true, if_false, ite_true, ite_false, reduceIte, IC, bI_0, bI_1, bF, Bool.not_eq_false, Bool.not_eq_true, Bool.and_true, Bool.true_and, Bool.and_false, Bool.false_and, Bool.true_or, Bool.or_true, Bool.or_false, Bool.false_or, Bool.not_true, Bool.not_false, decide_true, decide_false, not_true_eq_false, not_false_eq_true, eq_self, Bool.true_eq_false, Bool.false_eq_true]; rfl
  · by_cases k5 : k = 5
    · subst k5
      by_cases a4 : a = 4
      · subst a4
        have e1 : ¬ (5 : Int32) = 4 := by decide
        have e2 : ¬ (4 : Int32) = 0 := by decide
        simp +decide only [B163_0, B163_14, B163_15, B163_30, B163_31, B163_49, B163_54, h1, k3, e1, e2, Option.bind_some, List.append_nil, List.nil_append, List.cons_append, cond_true, cond_false, if_true, if_false, ite_true, ite_false, reduceIte, IC, bI_0, bI_1, bF, Bool.not_eq_false, Bool.not_eq_true, Bool.and_true, Bool.true_and, Bool.and_false, Bool.false_and, Bool.true_or, Bool.or_true, Bool.or_false, Bool.false_or, Bool.not_true, Bool.not_false, decide_true, decide_false, not_true_eq_false, not_false_eq_true, eq_self, Bool.true_eq_false, Bool.false_eq_true]; rfl
      · by_cases a0 : a = 0
        · subst a0; simp +decide only [B163_0, B163_14, B163_15, B163_30, B163_31, B163_49, B163_54, h1, k3, a4, Option.bind_some, List.append_nil, List.nil_append, List.cons_append, cond_true, cond_false, if_true, if_false, ite_true, ite_false, reduceIte, IC, bI_0, bI_1, bF, Bool.not_eq_false, Bool.not_eq_true, Bool.and_true, Bool.true_and, Bool.and_false, Bool.false_and, Bool.true_or, Bool.or_true, Bool.or_false, Bool.false_or, Bool.not_true, Bool.not_false, decide_true, decide_false, not_true_eq_false, not_false_eq_true, eq_self, Bool.true_eq_false, Bool.false_eq_true]; rfl
        · by_cases a5 : (5 : Int32) = a
          · subst a5; simp +decide only [B163_0, B163_14, B163_15, B163_30, B163_31, B163_49, B163_54, h1, k3, a4, Option.bind_some, List.append_nil, List.nil_append, List.cons_append, cond_true, cond_false, if_true, if_false, ite_true, ite_false, reduceIte, IC, bI_0, bI_1, bF, Bool.not_eq_false, Bool.not_eq_true, Bool.and_true, Bool.true_and, Bool.and_false, Bool.false_and, Bool.true_or, Bool.or_true, Bool.or_false, Bool.false_or, Bool.not_true, Bool.not_false, decide_true, decide_false, not_true_eq_false, not_false_eq_true, eq_self, Bool.true_eq_false, Bool.false_eq_true]; rfl
          · simp +decide only [B163_0, B163_14, B163_15, B163_30, B163_31, B163_49, B163_54, h1, k3, a4, a0, a5, Option.bind_some, List.append_nil, List.nil_append, List.cons_append, cond_true, cond_false, if_true, if_false, ite_true, ite_false, reduceIte, IC, bI_0, bI_1, bF, Bool.not_eq_false, Bool.not_eq_true, Bool.and_true, Bool.true_and, Bool.and_false, Bool.false_and, Bool.true_or, Bool.or_true, Bool.or_false, Bool.false_or, Bool.not_true, Bool.not_false, decide_true, decide_false, not_true_eq_false, not_false_eq_true, eq_self, Bool.true_eq_false, Bool.false_eq_true]; rfl
    · by_cases ka : k = a
      · subst ka; simp +decide only [B163_0, B163_14, B163_15, B163_30, B163_31, B163_49, B163_54, h1, k3, k5, Option.bind_some, List.append_nil, List.nil_append, List.cons_append, cond_true, cond_false, if_true, if_false, ite_true, ite_false, reduceIte, IC, bI_0, bI_1, bF, Bool.not_eq_false, Bool.not_eq_true, Bool.and_true, Bool.true_and, Bool.and_false, Bool.false_and, Bool.true_or, Bool.or_true, Bool.or_false, Bool.false_or, Bool.not_true, Bool.not_false, decide_true, decide_false, not_true_eq_false, not_false_eq_true, eq_self, Bool.true_eq_false, Bool.false_eq_true]; rfl
      · by_cases a0 : a = 0
        · subst a0; simp +decide only [B163_0, B163_14, B163_15, B163_30, B163_31, B163_49, B163_54, h1, k3, k5, ka, Option.bind_some, List.append_nil, List.nil_append, List.cons_append, cond_true, cond_false, if_true, if_false, ite_true, ite_false, reduceIte, IC, bI_0, bI_1, bF, Bool.not_eq_false, Bool.not_eq_true, Bool.and_true, Bool.true_and, Bool.and_false, Bool.false_and, Bool.true_or, Bool.or_true, Bool.or_false, Bool.false_or, Bool.not_true, Bool.not_false, decide_true, decide_false, not_true_eq_false, not_false_eq_true, eq_self, Bool.true_eq_false, Bool.false_eq_true]; rfl
        · simp +decide only [B163_0, B163_14, B163_15, B163_30, B163_31, B163_49, B163_54, h1, k3, k5, ka, a0, Option.bind_some, List.append_nil, List.nil_append, List.cons_append, cond_true, cond_false, if_true, if_false, ite_true, ite_false, reduceIte, IC, bI_0, bI_1, bF, Bool.not_eq_false, Bool.not_eq_true, Bool.and_true, Bool.true_and, Bool.and_false, Bool.false_and, Bool.true_or, Bool.or_true, Bool.or_false, Bool.false_or, Bool.not_true, Bool.not_false, decide_true, decide_false, not_true_eq_false, not_false_eq_true, eq_self, Bool.true_eq_false, Bool.false_eq_true]; rfl
/-- what a rule that is found makes of h -/
def dnV (s : Nat → Int32) (hh : Int32) (o : Option Nat) : Int32 := match o with
  | none => hh
  | some k => if s (86 + 4 * k + 1) + 6 = 6 then hh + s (86 + 4 * k + 2) else if s (86 + 4 * k + 1) + 6 = 7 then mmax (hh - s (86 + 4 * k + 2)) 0 else 0
theorem C_chg1 {a : Nat} {kd hh : Int32} (ok : Ok s m) (hR : RulR s D I N q) (hF : FcR (I 13) s a) (hkd : kd = s (7 + 5 * a)) : ∀ k j, j + k = ctR s → ∀ fc, fc = cFr (I (q + 4)) j → ∀ ff, ff = frm s j →
    Rn X (d + 2) 73 6 [.ref q, .int kd, .int hh, .ref 13, .int (Int32.ofNat fc), .int (Int32.ofNat j)] [] (Mh D I P N) = some ([.int (dnV s hh (rulF s a j k ff))], Mh D I P N)
  | 0, j, hk, fc, _, ff, _ => by
    have hn := ok.1.n1
    obtain ⟨hA, hc, -⟩ := hR
    rw [B73_6, (rdR5 hA).1, Option.bind_some, hc, hn.1, if_pos (by rw [iN_le (by omega) (by omega)]; omega), B73_87]
    rfl
  | k + 1, j, hk, fc, hfc, ff, hff => by
    have hn := ok.1.n1
    have hR' := hR
    obtain ⟨hA, hc, hall⟩ := hR
    obtain ⟨r1, r2, r3, r4, r5⟩ := hall j (by omega)
    have r4' := bt_iff.mp r4
    have r4n := cl_ti (x := I (q + 4) j) (by omega)
    have r4e : I (q + 4) j = Int32.ofNat (cEn (I (q + 4)) j) := iN_of (by omega)
    have hcE : cEn (I (q + 4)) j ≤ 100 := by unfold cEn; omega
    obtain ⟨e1, e2, e3⟩ := ok.en (j := j) (by omega)
    have hfcle : fc ≤ 100 := by
      obtain ⟨L, h1, -⟩ := r5
      rw [hfc]; omega
    have st72 : Rn X (d + 2) 73 72 [.ref q, .int kd, .int hh, .ref 13, .int (Int32.ofNat fc), .int (Int32.ofNat j)] [] (Mh D I P N) = some ([.int (dnV s hh (rulF s a (j + 1) k (enN s j)))], Mh D I P N) := by
      rw [B73_72, (rdR5 hA).2.2.2.2.2.1, Option.bind_some, rdR8 hA (by decide) (by decide) (by omega), Option.bind_some, r4e, iN_succ]
      exact C_chg1 ok hR' hF hkd k (j + 1) (by omega) _ rfl _ rfl
    rw [B73_6, (rdR5 hA).1, Option.bind_some, hc, hn.1, if_neg (by rw [iN_le (by omega) (by omega)]; omega), if_neg (le_n (l := 8) (n := 8) rfl (by omega) (by omega) (by omega)), (rdR5 hA).2.2.1, Option.bind_some, rdR8 hA (by decide) (by decide) (by omega), Option.bind_some, r1]
    simp only [C_und, Option.bind_some, List.append_nil, List.nil_append, List.cons_append, cond_true, cond_false, if_true, if_false, ite_true, ite_false, reduceIte, IC, bI_0, bI_1, bF, Bool.not_eq_false, Bool.not_eq_true, Bool.and_true, Bool.true_and, Bool.and_false, Bool.false_and, Bool.true_or, Bool.or_true, Bool.or_false, Bool.false_or, Bool.not_true, Bool.not_false, decide_true, decide_false, not_true_eq_false, not_false_eq_true, eq_self, Bool.true_eq_false, Bool.false_eq_true, B73_33]
    unfold rulF
    rw [← hkd]
    cases hu : undV kd (s (86 + 4 * j)) with
    | false =>
      simp only [Option.bind_some, List.append_nil, List.nil_append, List.cons_append, cond_true, cond_false, if_true, if_false, ite_true, ite_false, reduceIte, IC, bI_0, bI_1, bF, Bool.not_eq_false, Bool.not_eq_true, Bool.and_true, Bool.true_and, Bool.and_false, Bool.false_and, Bool.true_or, Bool.or_true, Bool.or_false, Bool.false_or, Bool.not_true, Bool.not_false, decide_true, decide_false, not_true_eq_false, not_false_eq_true, eq_self, Bool.true_eq_false, Bool.false_eq_true]
      exact st72
    | true =>
      obtain ⟨-, -, -, -, -, q6⟩ := ok.2 j (by omega)
      have hso := C_so (X := X) (d := d) (P := P) (i := fc) hA hF (hfc ▸ r5) hcE (q6 (fctV s a))
      rw [← r4e] at hso
      rw [if_neg (by decide), (rdR5 hA).2.2.2.2.2.1, Option.bind_some, rdR8 hA (by decide) (by decide) (by omega), Option.bind_some, (rdR5 hA).2.2.2.2.2.2.2.2.2]
      simp only [Option.bind_some, List.append_nil, List.nil_append, List.cons_append, cond_true, cond_false, if_true, if_false, ite_true, ite_false, reduceIte, IC, bI_0, bI_1, bF, Bool.not_eq_false, Bool.not_eq_true, Bool.and_true, Bool.true_and, Bool.and_false, Bool.false_and, Bool.true_or, Bool.or_true, Bool.or_false, Bool.false_or, Bool.not_true, Bool.not_false, decide_true, decide_false, not_true_eq_false, not_false_eq_true, eq_self, Bool.true_eq_false, Bool.false_eq_true, hso, B73_50]
      rw [← hff]
      show _ = some ([Value.int (dnV s hh (if (true && soV s ff (enN s j) a) = true then some j else rulF s a (j + 1) k (enN s j)))], _)
      cases hs : soV s ff (enN s j) a with
      | false =>
        simp only [Option.bind_some, List.append_nil, List.nil_append, List.cons_append, cond_true, cond_false, if_true, if_false, ite_true, ite_false, reduceIte, IC, bI_0, bI_1, bF, Bool.not_eq_false, Bool.not_eq_true, Bool.and_true, Bool.true_and, Bool.and_false, Bool.false_and, Bool.true_or, Bool.or_true, Bool.or_false, Bool.false_or, Bool.not_true, Bool.not_false, decide_true, decide_false, not_true_eq_false, not_false_eq_true, eq_self, Bool.true_eq_false, Bool.false_eq_true]
        exact st72
      | true =>
        rw [if_neg (by decide), (rdR5 hA).2.2.2.1, Option.bind_some, rdR8 hA (by decide) (by decide) (by omega), Option.bind_some, (rdR5 hA).2.2.2.2.1, Option.bind_some, rdR8 hA (by decide) (by decide) (by omega), Option.bind_some, r2, r3, B74_0]
        simp only [Option.bind_some, List.append_nil, List.nil_append, List.cons_append, cond_true, cond_false, if_true, if_false, ite_true, ite_false, reduceIte, IC, bI_0, bI_1, bF, Bool.not_eq_false, Bool.not_eq_true, Bool.and_true, Bool.true_and, Bool.and_false, Bool.false_and, Bool.true_or, Bool.or_true, Bool.or_false, Bool.false_or, Bool.not_true, Bool.not_false, decide_true, decide_false, not_true_eq_false, not_false_eq_true, eq_self, Bool.true_eq_false, Bool.false_eq_true, dnV]
        by_cases h6 : s (86 + 4 * j + 1) + 6 = 6
        · simp only [h6, Option.bind_some, List.append_nil, List.nil_append, List.cons_append, cond_true, cond_false, if_true, if_false, ite_true, ite_false, reduceIte, IC, bI_0, bI_1, bF, Bool.not_eq_false, Bool.not_eq_true, Bool.and_true, Bool.true_and, Bool.and_false, Bool.false_and, Bool.true_or, Bool.or_true, Bool.or_false, Bool.false_or, Bool.not_true, Bool.not_false, decide_true, decide_false, not_true_eq_false, not_false_eq_true, eq_self, Bool.true_eq_false, Bool.false_eq_true, B73_71]
        · by_cases h7 : s (86 + 4 * j + 1) + 6 = 7
          · simp +decide only [h6, h7, Option.bind_some, List.append_nil, List.nil_append, List.cons_append, cond_true, cond_false, if_true, if_false, ite_true, ite_false, reduceIte, IC, bI_0, bI_1, bF, Bool.not_eq_false, Bool.not_eq_true, Bool.and_true, Bool.true_and, Bool.and_false, Bool.false_and, Bool.true_or, Bool.or_true, Bool.or_false, Bool.false_or, Bool.not_true, Bool.not_false, decide_true, decide_false, not_true_eq_false, not_false_eq_true, eq_self, Bool.true_eq_false, Bool.false_eq_true, B73_71]
          · simp only [h6, h7, Option.bind_some, List.append_nil, List.nil_append, List.cons_append, cond_true, cond_false, if_true, if_false, ite_true, ite_false, reduceIte, IC, bI_0, bI_1, bF, Bool.not_eq_false, Bool.not_eq_true, Bool.and_true, Bool.true_and, Bool.and_false, Bool.false_and, Bool.true_or, Bool.or_true, Bool.or_false, Bool.false_or, Bool.not_true, Bool.not_false, decide_true, decide_false, not_true_eq_false, not_false_eq_true, eq_self, Bool.true_eq_false, Bool.false_eq_true, B73_71]
end ClsC
