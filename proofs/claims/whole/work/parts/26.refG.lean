/-! the reference: fewest to play -/
def oM (o : Option Nat) : Int32 := match o with | none => -1 | some n => Int32.ofNat n
section RefG
variable {X : mX} {d : Nat} {D : Nat → Nat × Nat} {I : Nat → Nat → Int32} {P : Nat → Nat → Option Nat} {N : Nat} {h : mH} {s g c S r : Nat → Int32} {J : Nat → Nat → Int32} {m : Int} {i j k n p q : Nat} {x v w a b e f : Int32}
theorem le_y {l : Int32} {n i : Nat} (hl : l = Int32.ofNat n) (hn : n < 2147483648) (hi : i < 2147483648) (h : n ≤ i) : l ≤ Int32.ofNat i := by rw [hl, iN_le hn hi]; exact h
theorem le_n {l : Int32} {n i : Nat} (hl : l = Int32.ofNat n) (hn : n < 2147483648) (hi : i < 2147483648) (h : i < n) : ¬ l ≤ Int32.ofNat i := by rw [hl, iN_le hn hi]; omega
theorem Sc.r6 (hs : Sc I J) : Sc (u2r I 66 S) (R6 J g S) := by
  obtain ⟨h1, ⟨-, h3, h4, h5, h6, h7, h8, h9, h10, h11, h12⟩, h13, h14, h15, h16⟩ := hs
  exact ⟨fun a ha => by rw [R6_o (by omega) (by omega), u2r_o (by omega)]; exact h1 a ha, ⟨rfl, h3, h4, h5, h6, h7, h8, h9, h10, h11, h12⟩, h13, h14, h15, h16⟩
theorem Sc.r7 (hs : Sc I J) : Sc I (R7 J c v) := by
  obtain ⟨h1, h2, h13, h14, h15, h16⟩ := hs
  exact ⟨fun a ha => by unfold R7; rw [u2_o (by omega), u2r_o (by omega)]; exact h1 a ha, h2, h13, h14, h15, h16⟩
theorem Sc.r68 (hs : Sc I J) : Sc I (u2r J 68 r) := by
  obtain ⟨h1, h2, h13, h14, h15, h16⟩ := hs
  exact ⟨fun a ha => by rw [u2r_o (by omega)]; exact h1 a ha, h2, h13, h14, h15, h16⟩
theorem R67_id : R6 (R7 I (I 70) (I 65 6)) (I 69) (I 66) = I := by rw [R7_id, R6_id]
theorem cpF_at (f : Nat → Int32) : ∀ k i (r : Nat → Int32) j, foldA (fun j r => upd r j (f j)) i k r j = if i ≤ j ∧ j < i + k then f j else r j
  | 0, i, r, j => by rw [if_neg (by omega)]; rfl
  | k + 1, i, r, j => by
    show foldA (fun j r => upd r j (f j)) (i + 1) k (upd r i (f i)) j = _
    rw [cpF_at f k (i + 1) _ j]
    by_cases h1 : j = i
    · subst h1; rw [if_neg (by omega), upd_s, if_pos (by omega)]
    · rw [upd_o h1]
      by_cases h2 : i + 1 ≤ j ∧ j < i + 1 + k
      · rw [if_pos h2, if_pos (by omega)]
      · rw [if_neg h2, if_neg (by omega)]
def row320 (f r : Nat → Int32) : Nat → Int32 := fun k => if k < 320 then f k else r k
theorem cp320 {f r : Nat → Int32} : foldA (fun j r => upd r j (f j)) 0 320 r = row320 f r := by
  funext j; rw [cpF_at]
  unfold row320
  by_cases h1 : j < 320
  · rw [if_pos (by omega), if_pos h1]
  · rw [if_neg (by omega), if_neg h1]
theorem M_puts1 : ∀ k i r, i + k = 320 → Rn X d 168 2 [.ref 65, .int (Int32.ofNat i)] [] (Mh D (u2r I 68 r) P N) = some ([], Mh D (u2r I 68 (foldA (fun j r => upd r j (I 66 j)) i k r)) P N)
  | 0, i, r, hk => by
    rw [B168_2, if_pos (le_y (l := 320) (n := 320) rfl (by omega) (by omega) (by omega))]; rfl
  | k + 1, i, r, hk => by
    rw [B168_2, if_neg (le_n (l := 320) (n := 320) rfl (by omega) (by omega) (by omega))]
    simp (disch := omega) only [RDm, Option.bind_some, List.append_nil, List.nil_append, List.cons_append, cond_true, cond_false, if_true, if_false, ite_true, ite_false, reduceIte, IC, bI_0, bI_1, bF, Bool.not_eq_false, Bool.not_eq_true, Bool.and_true, Bool.true_and, Bool.and_false, Bool.false_and, Bool.true_or, Bool.or_true, Bool.or_false, Bool.false_or, Bool.not_true, Bool.not_false, decide_true, decide_false, not_true_eq_false, not_false_eq_true, eq_self, Bool.true_eq_false, Bool.false_eq_true, rS, ww68, IX, u2_r, u2r_s, u2r_r]
    exact M_puts1 k (i + 1) _ (by omega)
theorem M_puts : Rn X d 168 0 [.ref 65, U_] [] (Mh D I P N) = some ([], Mh D (u2r I 68 (row320 (I 66) (I 68))) P N) := by
  rw [B168_0, ← cp320]
  have e := M_puts1 (X := X) (d := d) (D := D) (I := I) (P := P) (N := N) 320 0 (I 68) rfl
  rw [u2r_id] at e
  exact e
theorem M_pub1 : ∀ k i r, i + k = 320 → Rn X d 169 2 [.ref 65, .int (Int32.ofNat i)] [] (Mh D (u2r I 66 r) P N) = some ([], Mh D (u2r I 66 (foldA (fun j r => upd r j (I 68 j)) i k r)) P N)
  | 0, i, r, hk => by
    rw [B169_2, if_pos (le_y (l := 320) (n := 320) rfl (by omega) (by omega) (by omega))]; rfl
  | k + 1, i, r, hk => by
    rw [B169_2, if_neg (le_n (l := 320) (n := 320) rfl (by omega) (by omega) (by omega))]
    simp (disch := omega) only [RDm, Option.bind_some, List.append_nil, List.nil_append, List.cons_append, cond_true, cond_false, if_true, if_false, ite_true, ite_false, reduceIte, IC, bI_0, bI_1, bF, Bool.not_eq_false, Bool.not_eq_true, Bool.and_true, Bool.true_and, Bool.and_false, Bool.false_and, Bool.true_or, Bool.or_true, Bool.or_false, Bool.false_or, Bool.not_true, Bool.not_false, decide_true, decide_false, not_true_eq_false, not_false_eq_true, eq_self, Bool.true_eq_false, Bool.false_eq_true, rr68, wS, IX, u2_r, u2r_s, u2r_r]
    exact M_pub1 k (i + 1) _ (by omega)
theorem M_pub : Rn X d 169 0 [.ref 65, U_] [] (Mh D I P N) = some ([], Mh D (u2r I 66 (row320 (I 68) (I 66))) P N) := by
  rw [B169_0, ← cp320]
  have e := M_pub1 (X := X) (d := d) (D := D) (I := I) (P := P) (N := N) 320 0 (I 66) rfl
  rw [u2r_id] at e
  exact e
theorem R6_u68 : u2r (R6 J g s) 68 r = R6 (u2r J 68 r) g s := by
  unfold R6; rw [u2r_c (a := 66) (by decide), u2r_c (a := 69) (by decide)]
theorem R6_68 : R6 (u2r J 68 r) g s 68 = r := rfl
/-- alike behind the row's end -/
def E320 (s r : Nat → Int32) : Prop := ∀ k, 320 ≤ k → s k = r k
theorem E320_rf : E320 s s := fun _ _ => rfl
theorem E320.tel (hi : i < 9) (he : E320 s r) : E320 (telS s i) r := fun k hk => by rw [tel_o (by omega) (by omega) (by omega)]; exact he k hk
theorem row_id (he : E320 s r) : row320 (row320 r c) s = r := by
  funext k; unfold row320
  by_cases hk : k < 320
  · rw [if_pos hk, if_pos hk]
  · rw [if_neg hk]; exact he k (by omega)
/-- the row comes back -/
theorem M_pb (he : E320 s r) : Rn X d 169 0 [.ref 65, U_] [] (Mh D (R6 (u2r J 68 (row320 r c)) g s) P N) = some ([], Mh D (R6 (u2r J 68 (row320 r c)) g r) P N) := by
  rw [M_pub, R6_68, R6_66, R6_wr, row_id he]
theorem M_pt : Rn X d 168 0 [.ref 65, U_] [] (Mh D (R6 J g s) P N) = some ([], Mh D (R6 (u2r J 68 (row320 s (J 68))) g s) P N) := by
  rw [M_puts, R6_66, R6_u68]; rfl
def shoC (c s : Nat → Int32) (o : Option Nat) : Nat → Int32 := match o with | none => c | some n => setR c 0 (fstR n s)
theorem fin7 {o : Option mR} (e : o = some ([.int x], Mh D (R6 (R7 I c v) g S) P N)) : ∃ I', o = some ([.int x], Mh D I' P N) ∧ Sc (u2r I 66 S) I' := ⟨_, e, (Sc_rf.r7).r6⟩
theorem fin6 {o : Option mR} (e : o = some ([.int x], Mh D (R6 I g S) P N)) : ∃ I', o = some ([.int x], Mh D I' P N) ∧ Sc (u2r I 66 S) I' := ⟨_, e, Sc_rf.r6⟩
theorem M_sho1 (ok : Ok s 10) : ∀ k i g c v, i + k = 5 → ∃ g' v', Rn X (d + 12) 201 2 [.ref 65, .int (Int32.ofNat i)] [] (Mh D (R6 (R7 I c v) g s) P N)
      = some ([.int (oM (findF (fun n => arrF n s) i k))], Mh D (R6 (R7 I (shoC c s (findF (fun n => arrF n s) i k)) v') g' s) P N)
  | 0, i, g, c, v, hk => by
    refine ⟨g, v, ?_⟩
    rw [B201_2, if_pos (le_y (l := 5) (n := 5) rfl (by omega) (by omega) (by omega))]; rfl
  | k + 1, i, g, c, v, hk => by
    obtain ⟨g1, v1, e1⟩ := M_arr (X := X) (d := d + 4 - i) (D := D) (I := I) (P := P) (N := N) (m := 10) (by decide) i (by omega) 0 s g c v ok (by omega)
    rw [show d + 4 - i + i + 7 = d + 11 by omega] at e1
    have e1' : Rn X (d + 11) 200 0 [.ref 65, .int (Int32.ofNat i), .int 0, U_, U_, U_] [] (Mh D (R6 (R7 I c v) g s) P N) = _ := e1
    rw [B201_2, if_neg (le_n (l := 5) (n := 5) rfl (by omega) (by omega) (by omega))]
    simp only [Option.bind_some, List.append_nil, List.nil_append, List.cons_append, cond_true, cond_false, if_true, if_false, ite_true, ite_false, reduceIte, IC, bI_0, bI_1, bF, Bool.not_eq_false, Bool.not_eq_true, Bool.and_true, Bool.true_and, Bool.and_false, Bool.false_and, Bool.true_or, Bool.or_true, Bool.or_false, Bool.false_or, Bool.not_true, Bool.not_false, decide_true, decide_false, not_true_eq_false, not_false_eq_true, eq_self, Bool.true_eq_false, Bool.false_eq_true, e1', B201_13]
    unfold findF
    cases ha : arrF i s with
    | true => exact ⟨g1, v1, by simp only [Option.bind_some, List.append_nil, List.nil_append, List.cons_append, cond_true, cond_false, if_true, if_false, ite_true, ite_false, reduceIte, IC, bI_0, bI_1, bF, Bool.not_eq_false, Bool.not_eq_true, Bool.and_true, Bool.true_and, Bool.and_false, Bool.false_and, Bool.true_or, Bool.or_true, Bool.or_false, Bool.false_or, Bool.not_true, Bool.not_false, decide_true, decide_false, not_true_eq_false, not_false_eq_true, eq_self, Bool.true_eq_false, Bool.false_eq_true]; rfl⟩
    | false =>
      simp only [Option.bind_some, List.append_nil, List.nil_append, List.cons_append, cond_true, cond_false, if_true, if_false, ite_true, ite_false, reduceIte, IC, bI_0, bI_1, bF, Bool.not_eq_false, Bool.not_eq_true, Bool.and_true, Bool.true_and, Bool.and_false, Bool.false_and, Bool.true_or, Bool.or_true, Bool.or_false, Bool.false_or, Bool.not_true, Bool.not_false, decide_true, decide_false, not_true_eq_false, not_false_eq_true, eq_self, Bool.true_eq_false, Bool.false_eq_true, IX]
      exact M_sho1 ok k (i + 1) g1 c v1 (by omega)
theorem M_sho (ok : Ok s 10) (g c : Nat → Int32) (v : Int32) : ∃ g' v', Rn X (d + 12) 201 0 [.ref 65, U_] [] (Mh D (R6 (R7 I c v) g s) P N)
      = some ([.int (oM (shoF s))], Mh D (R6 (R7 I (shoC c s (shoF s)) v') g' s) P N) := by
  rw [B201_0]; exact M_sho1 ok 5 0 g c v rfl
theorem oV_of (o : Option Nat) (ho : ∀ n, o = some n → n < 2147483648) : (if 0 ≤ oM o then oM o else -3) = oV o := by
  cases o with
  | none => rfl
  | some n => unfold oM oV; simp only [iN_0le (ho n rfl), if_true]
theorem findF_lt {F : Nat → Bool} : ∀ k i n, findF F i k = some n → i ≤ n ∧ n < i + k ∧ F n = true
  | 0, _, _, h => by cases h
  | k + 1, i, n, h => by
    unfold findF at h
    split at h
    · next hf => cases h; exact ⟨Nat.le_refl _, by omega, hf⟩
    · have := findF_lt k (i + 1) n h; exact ⟨by omega, by omega, this.2.2⟩
theorem findF_min {F : Nat → Bool} : ∀ k i n, findF F i k = some n → ∀ j, i ≤ j → j < n → F j = false
  | 0, _, _, h => by cases h
  | k + 1, i, n, h => by
    unfold findF at h
    split at h
    · cases h; intro j h1 h2; omega
    · next hf =>
      intro j h1 h2
      by_cases hj : j = i
      · subst hj; exact Bool.not_eq_true _ ▸ hf
      · exact findF_min k (i + 1) n h j (by omega) h2
theorem sho_lt (h : shoF s = some n) : n < 5 ∧ arrF n s = true ∧ ∀ j, j < n → arrF j s = false := by
  have h1 := findF_lt 5 0 n h
  exact ⟨by omega, h1.2.2, fun j hj => findF_min 5 0 n h j (by omega) hj⟩
theorem F_few (ok : Ok (I 66) 10) : Rf X I 202 [.ref 65, U_] (pFew (I 66), I 66) := by
  intro d D P N
  obtain ⟨g', v', e⟩ := M_sho (X := X) (d := d + 27) (D := D) (I := I) (P := P) (N := N) ok (I 69) (I 70) (I 65 6)
  rw [R67_id] at e
  refine fin7 (g := g') (c := shoC (I 70) (I 66) (shoF (I 66))) (v := v') ?_
  simp only [B202_0, Option.bind_some, List.append_nil, List.nil_append, List.cons_append, cond_true, cond_false, if_true, if_false, ite_true, ite_false, reduceIte, IC, bI_0, bI_1, bF, Bool.not_eq_false, Bool.not_eq_true, Bool.and_true, Bool.true_and, Bool.and_false, Bool.false_and, Bool.true_or, Bool.or_true, Bool.or_false, Bool.false_or, Bool.not_true, Bool.not_false, decide_true, decide_false, not_true_eq_false, not_false_eq_true, eq_self, Bool.true_eq_false, Bool.false_eq_true, e, B202_4, B202_15]
  have := oV_of (shoF (I 66)) (fun n hn => by have := sho_lt hn; omega)
  show _ = some ([Value.int (oV (shoF (I 66)))], _)
  rw [← this]
  split <;> rfl
theorem setR_at : ∀ (L : List Nat) p j, j < L.length → setR c p L (p + j) = Int32.ofNat (L.getD j 0)
  | [], _, _, h => by cases h
  | a :: L, p, 0, _ => upd_s
  | a :: L, p, j + 1, h => by
    show upd (setR c (p + 1) L) p (Int32.ofNat a) (p + (j + 1)) = _
    rw [upd_o (by omega), show p + (j + 1) = p + 1 + j by omega, setR_at L (p + 1) j (by simpa using h)]
    rfl
theorem arr_ov (h : ovV s = true) : arrF n s = true := by cases n <;> simp [arrF, h]
theorem fst_len : ∀ n s, arrF n s = true → (∀ j, j < n → arrF j s = false) → (fstR n s).length = n
  | 0, _, _, _ => rfl
  | n + 1, s, h, hm => by
    have h0 := hm 0 (by omega)
    have h1 : ovV s = false := h0
    unfold arrF at h
    unfold fstR
    rw [h1] at h ⊢
    simp only [Bool.false_or] at h
    show (match findF (fun a => canV s a && arrF n (telS s a)) 0 (ctA s) with | none => [] | some a => a :: fstR n (telS s a)).length = n + 1
    cases hf : findF (fun a => canV s a && arrF n (telS s a)) 0 (ctA s) with
    | none => rw [hf] at h; cases h
    | some a =>
      have hl := findF_lt _ _ _ hf
      have hca := hl.2.2
      simp only [Bool.and_eq_true] at hca
      show (fstR n (telS s a)).length + 1 = n + 1
      rw [fst_len n (telS s a) hca.2 (fun j hj => ?_)]
      cases ha : arrF j (telS s a) with
      | false => rfl
      | true =>
        exfalso
        have hj1 := hm (j + 1) (by omega)
        unfold arrF at hj1
        rw [h1, Bool.false_or] at hj1
        have key : ∀ k i, i ≤ a → a < i + k → (findF (fun b => canV s b && arrF j (telS s b)) i k).isSome = true := by
          intro k
          induction k with
          | zero => intro i h1 h2; omega
          | succ k ih =>
            intro i h1 h2
            unfold findF
            split
            · rfl
            · next hq =>
              by_cases hia : i = a
              · subst hia; simp [hca.1, ha] at hq
              · exact ih (i + 1) (by omega) (by omega)
        rw [key (ctA s) 0 (by omega) (by omega)] at hj1
        cases hj1
theorem F_ith (ok : Ok (I 66) 10) : Rf X I 203 [.ref 65, .int x] (pIth (I 66) x, I 66) := by
  intro d D P N
  obtain ⟨g', v', e⟩ := M_sho (X := X) (d := d + 27) (D := D) (I := I) (P := P) (N := N) ok (I 69) (I 70) (I 65 6)
  rw [R67_id] at e
  simp only [B203_0, Option.bind_some, List.append_nil, List.nil_append, List.cons_append, cond_true, cond_false, if_true, if_false, ite_true, ite_false, reduceIte, IC, bI_0, bI_1, bF, Bool.not_eq_false, Bool.not_eq_true, Bool.and_true, Bool.true_and, Bool.and_false, Bool.false_and, Bool.true_or, Bool.or_true, Bool.or_false, Bool.false_or, Bool.not_true, Bool.not_false, decide_true, decide_false, not_true_eq_false, not_false_eq_true, eq_self, Bool.true_eq_false, Bool.false_eq_true, M_bt, L64, B203_9, B203_19, B203_33]
  unfold pIth
  cases hb : bt x 0 3 with
  | false => exact ⟨I, by simp only [Option.bind_some, List.append_nil, List.nil_append, List.cons_append, cond_true, cond_false, if_true, if_false, ite_true, ite_false, reduceIte, IC, bI_0, bI_1, bF, Bool.not_eq_false, Bool.not_eq_true, Bool.and_true, Bool.true_and, Bool.and_false, Bool.false_and, Bool.true_or, Bool.or_true, Bool.or_false, Bool.false_or, Bool.not_true, Bool.not_false, decide_true, decide_false, not_true_eq_false, not_false_eq_true, eq_self, Bool.true_eq_false, Bool.false_eq_true], Sc_id⟩
  | true =>
    obtain ⟨e1, e2⟩ := bt_nat hb
    refine fin7 (g := g') (c := shoC (I 70) (I 66) (shoF (I 66))) (v := v') ?_
    simp only [Option.bind_some, List.append_nil, List.nil_append, List.cons_append, cond_true, cond_false, if_true, if_false, ite_true, ite_false, reduceIte, IC, bI_0, bI_1, bF, Bool.not_eq_false, Bool.not_eq_true, Bool.and_true, Bool.true_and, Bool.and_false, Bool.false_and, Bool.true_or, Bool.or_true, Bool.or_false, Bool.false_or, Bool.not_true, Bool.not_false, decide_true, decide_false, not_true_eq_false, not_false_eq_true, eq_self, Bool.true_eq_false, Bool.false_eq_true, e, B203_19, B203_33]
    cases hs : shoF (I 66) with
    | none =>
      have h1 : (-1 : Int32) ≤ x := by rw [Int32.le_iff_toInt_le]; have := bt_iff.mp hb; show -1 ≤ x.toInt; omega
      simp only [oM, h1, Option.bind_some, List.append_nil, List.nil_append, List.cons_append, cond_true, cond_false, if_true, if_false, ite_true, ite_false, reduceIte, IC, bI_0, bI_1, bF, Bool.not_eq_false, Bool.not_eq_true, Bool.and_true, Bool.true_and, Bool.and_false, Bool.false_and, Bool.true_or, Bool.or_true, Bool.or_false, Bool.false_or, Bool.not_true, Bool.not_false, decide_true, decide_false, not_true_eq_false, not_false_eq_true, eq_self, Bool.true_eq_false, Bool.false_eq_true]
    | some n =>
      have hn := sho_lt hs
      rw [e1]
      simp (disch := omega) only [oM, iN_le, iN_cl]
      by_cases hx : x.toNatClampNeg < n
      · have hx2 : ¬ n ≤ x.toNatClampNeg := by omega
        have hlen := fst_len n (I 66) hn.2.1 hn.2.2
        have e5 := setR_at (c := I 70) (fstR n (I 66)) 0 x.toNatClampNeg (by omega)
        rw [Nat.zero_add] at e5
        simp (disch := omega) only [hx, hx2, Option.bind_some, List.append_nil, List.nil_append, List.cons_append, cond_true, cond_false, if_true, if_false, ite_true, ite_false, reduceIte, IC, bI_0, bI_1, bF, Bool.not_eq_false, Bool.not_eq_true, Bool.and_true, Bool.true_and, Bool.and_false, Bool.false_and, Bool.true_or, Bool.or_true, Bool.or_false, Bool.false_or, Bool.not_true, Bool.not_false, decide_true, decide_false, not_true_eq_false, not_false_eq_true, eq_self, Bool.true_eq_false, Bool.false_eq_true, RDm, rr70, R7_70, shoC]
        rw [e5]
      · have hx2 : n ≤ x.toNatClampNeg := by omega
        simp only [hx, hx2, Option.bind_some, List.append_nil, List.nil_append, List.cons_append, cond_true, cond_false, if_true, if_false, ite_true, ite_false, reduceIte, IC, bI_0, bI_1, bF, Bool.not_eq_false, Bool.not_eq_true, Bool.and_true, Bool.true_and, Bool.and_false, Bool.false_and, Bool.true_or, Bool.or_true, Bool.or_false, Bool.false_or, Bool.not_true, Bool.not_false, decide_true, decide_false, not_true_eq_false, not_false_eq_true, eq_self, Bool.true_eq_false, Bool.false_eq_true]
theorem F_way (ok : Ok (I 66) 10) : Rf X I 206 [.ref 65, .int x] (pWay (I 66) x, I 66) := by
  intro d D P N
  simp only [B206_0, B206_4, B206_12, B206_16, B204_0, B204_9, Option.bind_some, List.append_nil, List.nil_append, List.cons_append, cond_true, cond_false, if_true, if_false, ite_true, ite_false, reduceIte, IC, bI_0, bI_1, bF, Bool.not_eq_false, Bool.not_eq_true, Bool.and_true, Bool.true_and, Bool.and_false, Bool.false_and, Bool.true_or, Bool.or_true, Bool.or_false, Bool.false_or, Bool.not_true, Bool.not_false, decide_true, decide_false, not_true_eq_false, not_false_eq_true, eq_self, Bool.true_eq_false, Bool.false_eq_true, M_bt, L64]
  unfold pWay
  cases hb : bt x 0 4 with
  | false => exact ⟨I, by simp only [Option.bind_some, List.append_nil, List.nil_append, List.cons_append, cond_true, cond_false, if_true, if_false, ite_true, ite_false, reduceIte, IC, bI_0, bI_1, bF, Bool.not_eq_false, Bool.not_eq_true, Bool.and_true, Bool.true_and, Bool.and_false, Bool.false_and, Bool.true_or, Bool.or_true, Bool.or_false, Bool.false_or, Bool.not_true, Bool.not_false, decide_true, decide_false, not_true_eq_false, not_false_eq_true, eq_self, Bool.true_eq_false, Bool.false_eq_true], Sc_id⟩
  | true =>
    obtain ⟨e1, e2⟩ := bt_nat hb
    obtain ⟨g', e⟩ := M_way (X := X) (d := d) (D := D) (I := I) (P := P) (N := N) (m := 10) (by decide) x.toNatClampNeg (by omega) (I 66) (I 69) ok
    rw [R6_id] at e
    have e' := Rn_up e (show d + x.toNatClampNeg + 7 ≤ d + 39 by omega)
    rw [← e1] at e'
    refine fin6 (g := g') ?_
    simp only [Option.bind_some, List.append_nil, List.nil_append, List.cons_append, cond_true, cond_false, if_true, if_false, ite_true, ite_false, reduceIte, IC, bI_0, bI_1, bF, Bool.not_eq_false, Bool.not_eq_true, Bool.and_true, Bool.true_and, Bool.and_false, Bool.false_and, Bool.true_or, Bool.or_true, Bool.or_false, Bool.false_or, Bool.not_true, Bool.not_false, decide_true, decide_false, not_true_eq_false, not_false_eq_true, eq_self, Bool.true_eq_false, Bool.false_eq_true, e', B206_12, B206_16]
theorem F_far (ok : Ok (I 66) 10) : Rf X I 208 [.ref 65, .int x] (pFar (I 66) x, I 66) := by
  intro d D P N
  simp only [B208_0, B208_4, B208_12, B208_16, B204_0, B204_9, Option.bind_some, List.append_nil, List.nil_append, List.cons_append, cond_true, cond_false, if_true, if_false, ite_true, ite_false, reduceIte, IC, bI_0, bI_1, bF, Bool.not_eq_false, Bool.not_eq_true, Bool.and_true, Bool.true_and, Bool.and_false, Bool.false_and, Bool.true_or, Bool.or_true, Bool.or_false, Bool.false_or, Bool.not_true, Bool.not_false, decide_true, decide_false, not_true_eq_false, not_false_eq_true, eq_self, Bool.true_eq_false, Bool.false_eq_true, M_bt, L64]
  unfold pFar
  cases hb : bt x 0 4 with
  | false => exact ⟨I, by simp only [Option.bind_some, List.append_nil, List.nil_append, List.cons_append, cond_true, cond_false, if_true, if_false, ite_true, ite_false, reduceIte, IC, bI_0, bI_1, bF, Bool.not_eq_false, Bool.not_eq_true, Bool.and_true, Bool.true_and, Bool.and_false, Bool.false_and, Bool.true_or, Bool.or_true, Bool.or_false, Bool.false_or, Bool.not_true, Bool.not_false, decide_true, decide_false, not_true_eq_false, not_false_eq_true, eq_self, Bool.true_eq_false, Bool.false_eq_true], Sc_id⟩
  | true =>
    obtain ⟨e1, e2⟩ := bt_nat hb
    obtain ⟨g', e⟩ := M_far (X := X) (d := d) (D := D) (I := I) (P := P) (N := N) (m := 10) (by decide) x.toNatClampNeg (by omega) (I 66) (I 69) ok
    rw [R6_id] at e
    have e' := Rn_up e (show d + x.toNatClampNeg + 7 ≤ d + 39 by omega)
    rw [← e1] at e'
    refine fin6 (g := g') ?_
    simp only [Option.bind_some, List.append_nil, List.nil_append, List.cons_append, cond_true, cond_false, if_true, if_false, ite_true, ite_false, reduceIte, IC, bI_0, bI_1, bF, Bool.not_eq_false, Bool.not_eq_true, Bool.and_true, Bool.true_and, Bool.and_false, Bool.false_and, Bool.true_or, Bool.or_true, Bool.or_false, Bool.false_or, Bool.not_true, Bool.not_false, decide_true, decide_false, not_true_eq_false, not_false_eq_true, eq_self, Bool.true_eq_false, Bool.false_eq_true, e', B208_12, B208_16]
theorem F_kin (ok : Ok (I 66) 10) : Rf X I 210 [.ref 65, .int x, U_] (pKin (I 66) x, I 66) := by
  intro d D P N
  simp only [B210_0, B210_4, B210_14, B210_25, B204_0, B204_9, Option.bind_some, List.append_nil, List.nil_append, List.cons_append, cond_true, cond_false, if_true, if_false, ite_true, ite_false, reduceIte, IC, bI_0, bI_1, bF, Bool.not_eq_false, Bool.not_eq_true, Bool.and_true, Bool.true_and, Bool.and_false, Bool.false_and, Bool.true_or, Bool.or_true, Bool.or_false, Bool.false_or, Bool.not_true, Bool.not_false, decide_true, decide_false, not_true_eq_false, not_false_eq_true, eq_self, Bool.true_eq_false, Bool.false_eq_true, M_bt, L64]
  unfold pKin
  cases hb : bt x 0 4 with
  | false => exact ⟨I, by simp only [Option.bind_some, List.append_nil, List.nil_append, List.cons_append, cond_true, cond_false, if_true, if_false, ite_true, ite_false, reduceIte, IC, bI_0, bI_1, bF, Bool.not_eq_false, Bool.not_eq_true, Bool.and_true, Bool.true_and, Bool.and_false, Bool.false_and, Bool.true_or, Bool.or_true, Bool.or_false, Bool.false_or, Bool.not_true, Bool.not_false, decide_true, decide_false, not_true_eq_false, not_false_eq_true, eq_self, Bool.true_eq_false, Bool.false_eq_true], Sc_id⟩
  | true =>
    obtain ⟨e1, e2⟩ := bt_nat hb
    obtain ⟨g', e⟩ := M_kin (X := X) (d := d) (D := D) (I := I) (P := P) (N := N) (m := 10) (by decide) x.toNatClampNeg (by omega) (I 66) (I 69) ok
    rw [R6_id] at e
    have e' := Rn_up e (show d + x.toNatClampNeg + 7 ≤ d + 39 by omega)
    rw [← e1] at e'
    refine fin6 (g := g') ?_
    simp only [Option.bind_some, List.append_nil, List.nil_append, List.cons_append, cond_true, cond_false, if_true, if_false, ite_true, ite_false, reduceIte, IC, bI_0, bI_1, bF, Bool.not_eq_false, Bool.not_eq_true, Bool.and_true, Bool.true_and, Bool.and_false, Bool.false_and, Bool.true_or, Bool.or_true, Bool.or_false, Bool.false_or, Bool.not_true, Bool.not_false, decide_true, decide_false, not_true_eq_false, not_false_eq_true, eq_self, Bool.true_eq_false, Bool.false_eq_true, e', B210_14, B210_25, nonV]
    split <;> rfl
end RefG
