/-! the class: answers told on trial -/
def pth : List Nat → (Nat → Int32) → (Nat → Int32)
  | [], s => s
  | a :: L, s => telS (pth L s) a
def chn : List Nat → (Nat → Int32) → Prop
  | [], _ => True
  | a :: L, s => chn L s ∧ a < ctA s ∧ canV (pth L s) a = true
def srR (J : Nat → Nat → Int32) (s : Nat → Int32) : List Nat → Prop
  | [] => True
  | a :: T => (J 32 T.length = Int32.ofNat a ∧ J 33 T.length = pasV (pth T s) a ∧ J 34 T.length = pth (a :: T) s 4 ∧ J 35 T.length = pth (a :: T) s 5) ∧ srR J s T
def FrS (n : Nat) (ra : Nat → Nat) (I J : Nat → Nat → Int32) : Prop := ∀ a, a ≠ 1 → a ≠ 13 → (a < 31 ∨ 35 < a) → (∀ i, i < n → a ≠ ra i) → J a = I a
def Srch (D : Nat → Nat × Nat) (P : Nat → Nat → Option Nat) (N : Nat) (ra : Nat → Nat) (s : Nat → Int32) (I : Nat → Nat → Int32) (L : List Nat) (J : Nat → Nat → Int32) : Prop :=
  RideR (pth L s) D J P N 1 ra ∧ J 31 5 = Int32.ofNat L.length ∧ srR J s L ∧ FrS (ctA s) ra I J ∧ chn L s
section ClsH
variable {X : mX} {d : Nat} {D : Nat → Nat × Nat} {I : Nat → Nat → Int32} {P : Nat → Nat → Option Nat} {N : Nat} {h : mH} {s s' g S r f f' F c : Nat → Int32} {J J' : Nat → Nat → Int32} {ra : Nat → Nat} {L : List Nat} {m : Int} {i j k n p q : Nat} {x v w a b z fl : Int32}
theorem pth_ok : ∀ L, Ok s 10 → chn L s → Ok (pth L s) 10 ∧ ctA (pth L s) = ctA s
  | [], ok, _ => ⟨ok, rfl⟩
  | a :: L, ok, hc => by
    obtain ⟨o1, o2⟩ := pth_ok L ok hc.1
    have ha : a < ctA (pth L s) := by rw [o2]; exact hc.2.1
    exact ⟨o1.tel (by decide) ha hc.2.2, by show ctA (telS (pth L s) a) = _; rw [cN_tel (o1.1.a ha), o2]⟩
theorem srR_of : ∀ L, (∀ j, j < L.length → J' 32 j = J 32 j ∧ J' 33 j = J 33 j ∧ J' 34 j = J 34 j ∧ J' 35 j = J 35 j) → srR J s L → srR J' s L
  | [], _, _ => trivial
  | a :: T, h, hs => by
    obtain ⟨h1, h2, h3, h4⟩ := h T.length (by simp)
    refine ⟨?_, srR_of T (fun j hj => h j (by simp; omega)) hs.2⟩
    rw [h1, h2, h3, h4]; exact hs.1
theorem srR_at : ∀ L, srR J s L → ∀ k, k < L.length → ∃ T a U, L = T ++ a :: U ∧ U.length = k ∧ J 32 k = Int32.ofNat a ∧ J 34 k = pth (a :: U) s 4 ∧ J 35 k = pth (a :: U) s 5
  | [], _, _, h => by cases h
  | a :: T, hs, k, hk => by
    by_cases he : k = T.length
    · subst he
      exact ⟨[], a, T, rfl, rfl, hs.1.1, hs.1.2.2.1, hs.1.2.2.2⟩
    · obtain ⟨T', b, U, h1, h2, h3⟩ := srR_at T hs.2 k (by simp at hk; omega)
      exact ⟨a :: T', b, U, by rw [h1]; rfl, h2, h3⟩
theorem rS32 (h : j < 30) : hAI 0 (Mh D I P N) 32 (Int32.ofNat j) = some (I 32 j) ∧ hAI 0 (Mh D I P N) 33 (Int32.ofNat j) = some (I 33 j) ∧ hAI 0 (Mh D I P N) 34 (Int32.ofNat j) = some (I 34 j) ∧ hAI 0 (Mh D I P N) 35 (Int32.ofNat j) = some (I 35 j) := by
  refine ⟨?_, ?_, ?_, ?_⟩
  · rw [rdA hN32 (n := 30) rfl rfl, mib_N h (by decide), iN_cl (by omega)]; rfl
  · rw [rdA hN33 (n := 30) rfl rfl, mib_N h (by decide), iN_cl (by omega)]; rfl
  · rw [rdA hN34 (n := 30) rfl rfl, mib_N h (by decide), iN_cl (by omega)]; rfl
  · rw [rdA hN35 (n := 30) rfl rfl, mib_N h (by decide), iN_cl (by omega)]; rfl
theorem wS32 (h : j < 30) : (∀ I x, hAS 0 (Mh D I P N) 32 (Int32.ofNat j) x = some (Mh D (u2 I 32 j x) P N)) ∧ (∀ I x, hAS 0 (Mh D I P N) 33 (Int32.ofNat j) x = some (Mh D (u2 I 33 j x) P N)) ∧ (∀ I x, hAS 0 (Mh D I P N) 34 (Int32.ofNat j) x = some (Mh D (u2 I 34 j x) P N)) ∧ (∀ I x, hAS 0 (Mh D I P N) 35 (Int32.ofNat j) x = some (Mh D (u2 I 35 j x) P N)) := by
  refine ⟨fun I x => ?_, fun I x => ?_, fun I x => ?_, fun I x => ?_⟩
  · rw [wrA hN32 (n := 30) rfl rfl, mib_N h (by decide), iN_cl (by omega)]; rfl
  · rw [wrA hN33 (n := 30) rfl rfl, mib_N h (by decide), iN_cl (by omega)]; rfl
  · rw [wrA hN34 (n := 30) rfl rfl, mib_N h (by decide), iN_cl (by omega)]; rfl
  · rw [wrA hN35 (n := 30) rfl rfl, mib_N h (by decide), iN_cl (by omega)]; rfl
def stI (J : Nat → Nat → Int32) (k : Nat) (a p x y : Int32) : Nat → Nat → Int32 := u2 (u2 (u2 (u2 (u2 J 32 k a) 33 k p) 34 k x) 35 k y) 31 5 (Int32.ofNat (k + 1))
theorem st_o {y p : Int32} {k b : Nat} (h : b < 31 ∨ 35 < b) : stI J k a p x y b = J b := by
  unfold stI
  rw [u2_o (by omega), u2_o (by omega), u2_o (by omega), u2_o (by omega), u2_o (by omega)]
theorem Srch.step (ok : Ok s 10) (hS : Srch D P N ra s I L J) (hi : i < ctA s) (hc : canV (pth L s) i = true) : Srch D P N ra s I (i :: L) (stI (tlI J (pth L s) ra i f) L.length (Int32.ofNat i) (pasV (pth L s) i) (pth (i :: L) s 4) (pth (i :: L) s 5)) := by
  obtain ⟨hr, hl, hs, hf, hch⟩ := hS
  obtain ⟨ok2, hct⟩ := pth_ok L ok hch
  have hi2 : i < ctA (pth L s) := by rw [hct]; exact hi
  have hr2 := hr.tel (f := f) ok2 hi2
  have h80 : ∀ j, j < ctA s → 80 ≤ ra j := fun j hj => (hr.2.2.2.1 j (by rw [hct]; exact hj)).2.1.1
  refine ⟨?_, ?_, ?_, ?_, hch, hi, hc⟩
  · refine hr2.of (st_o (by omega)) (st_o (by omega)) (st_o (by omega)) (st_o (by omega)) (st_o (by omega)) (fun j hj => ?_) (fun q hq _ j hj => ?_)
    · rw [cN_tel (ok2.1.a hi2), hct] at hj
      have := h80 j hj
      exact st_o (by omega)
    · have := hq.1
      exact st_o (by omega)
  · unfold stI; rw [u2_s, upd_s]; rfl
  · refine ⟨⟨?_, ?_, ?_, ?_⟩, srR_of L (fun j hj => ?_) hs⟩
    · unfold stI; rw [u2_o (by decide), u2_o (by decide), u2_o (by decide), u2_o (by decide), u2_s, upd_s]
    · unfold stI; rw [u2_o (by decide), u2_o (by decide), u2_o (by decide), u2_s, upd_s]
    · unfold stI; rw [u2_o (by decide), u2_o (by decide), u2_s, upd_s]
    · unfold stI; rw [u2_o (by decide), u2_s, upd_s]
    · have hne : j ≠ L.length := by omega
      have hA := h80 i hi
      unfold stI
      refine ⟨?_, ?_, ?_, ?_⟩
      · rw [u2_o (by decide), u2_o (by decide), u2_o (by decide), u2_o (by decide), u2_s, upd_o hne, tl_o (by decide) (by decide) (by omega)]
      · rw [u2_o (by decide), u2_o (by decide), u2_o (by decide), u2_s, upd_o hne, u2_o (by decide), tl_o (by decide) (by decide) (by omega)]
      · rw [u2_o (by decide), u2_o (by decide), u2_s, upd_o hne, u2_o (by decide), u2_o (by decide), tl_o (by decide) (by decide) (by omega)]
      · rw [u2_o (by decide), u2_s, upd_o hne, u2_o (by decide), u2_o (by decide), u2_o (by decide), tl_o (by decide) (by decide) (by omega)]
  · intro b h1 h13 h31 hb
    rw [st_o h31, tl_o h1 h13 (hb i hi)]
    exact hf b h1 h13 h31 hb
theorem C_step (ok : Ok s 10) (hS : Srch D P N ra s I L J) (hL : L.length < 30) (hi : i < ctA s) (hc : canV (pth L s) i = true) : ∃ J', Srch D P N ra s I (i :: L) J' ∧ Rn X (d + 7) 89 0 [.ref 31, .int (Int32.ofNat i), U_] [] (Mh D J P N) = some ([.int 1], Mh D J' P N) := by
  obtain ⟨hr, hl, hs, hf, hch⟩ := id hS
  obtain ⟨ok2, hct⟩ := pth_ok L ok hch
  have hi2 : i < ctA (pth L s) := by rw [hct]; exact hi
  obtain ⟨f, e⟩ := C_tel (X := X) (d := d) ok2 hr hi2 hc
  have h80 := (hr.2.2.2.1 i hi2).2.1.1
  refine ⟨_, hS.step (f := f) ok hi hc, ?_⟩
  have hpos : 0 ≤ pasV (pth L s) i := by
    have := (pas_pos ok2 hc).2.1
    rw [Int32.lt_iff_toInt_lt, z_ti] at this
    rw [Int32.le_iff_toInt_le, z_ti]; omega
  have hlt : ¬ Int32.ofNat L.length < 0 := iN_neg (by omega)
  have h30 : Int32.ofNat L.length < 30 := by rw [show (30 : Int32) = Int32.ofNat 30 from rfl, iN_lt (by omega) (by omega)]; exact hL
  have t31 : tlI J (pth L s) ra i f 31 = J 31 := tl_o (by decide) (by decide) (by omega)
  have t16 : tlI J (pth L s) ra i f 1 6 = pth (i :: L) s 4 := by
    rw [tl_1 h80, upd_o (by decide), upd_s]; exact tel_4.symm
  have t17 : tlI J (pth L s) ra i f 1 7 = pth (i :: L) s 5 := by
    rw [tl_1 h80, upd_s]; exact tel_5.symm
  have w32 := wS32 (D := D) (P := P) (N := N) hL
  rw [B89_0]
  simp only [RDc, Option.bind_some, List.append_nil, List.nil_append, List.cons_append, cond_true, cond_false, if_true, if_false, ite_true, ite_false, reduceIte, IC, bI_0, bI_1, bF, Bool.not_eq_false, Bool.not_eq_true, Bool.and_true, Bool.true_and, Bool.and_false, Bool.false_and, Bool.true_or, Bool.or_true, Bool.or_false, Bool.false_or, Bool.not_true, Bool.not_false, decide_true, decide_false, not_true_eq_false, not_false_eq_true, eq_self, Bool.true_eq_false, Bool.false_eq_true, hl, hlt, h30, e, B89_26, hpos, w32.1, w32.2.1, w32.2.2.1, w32.2.2.2, WRc, u2_o (show 31 ≠ 32 by decide), u2_o (show 31 ≠ 33 by decide), u2_o (show 31 ≠ 34 by decide), u2_o (show 31 ≠ 35 by decide), u2_o (show 1 ≠ 32 by decide), u2_o (show 1 ≠ 33 by decide), u2_o (show 1 ≠ 34 by decide), u2_o (show 1 ≠ 35 by decide), t31, t16, t17, IX]
  rfl
theorem C_stpN (ok : Ok s 10) (hS : Srch D P N ra s I L J) (hL : L.length < 30) (h : isA s a = false ∨ ∃ i, i < ctA s ∧ a = Int32.ofNat i ∧ canV (pth L s) i = false) : Rn X (d + 7) 89 0 [.ref 31, .int a, U_] [] (Mh D J P N) = some ([.int 0], Mh D J P N) := by
  obtain ⟨hr, hl, hs, hf, hch⟩ := id hS
  obtain ⟨ok2, hct⟩ := pth_ok L ok hch
  have hlt : ¬ Int32.ofNat L.length < 0 := iN_neg (by omega)
  have h30 : Int32.ofNat L.length < 30 := by rw [show (30 : Int32) = Int32.ofNat 30 from rfl, iN_lt (by omega) (by omega)]; exact hL
  have e : ∃ v, Rn X (d + 6) 42 0 [.ref 1, .int a, U_, U_] [] (Mh D J P N) = some ([.int v], Mh D J P N) ∧ ¬ 0 ≤ v := by
    rcases h with h | ⟨i, h1, rfl, h2⟩
    · refine ⟨-1, C_telB ok2 hr ?_, by decide⟩
      have h0 := ok.1.n0
      have h0' := ok2.1.n0
      unfold isA at h ⊢
      rw [h0'.1, hct, ← h0.1]; exact h
    · exact ⟨-4, C_telN ok2 hr (by rw [hct]; exact h1) h2, by decide⟩
  obtain ⟨v, e1, e2⟩ := e
  rw [B89_0]
  simp only [RDc, Option.bind_some, List.append_nil, List.nil_append, List.cons_append, cond_true, cond_false, if_true, if_false, ite_true, ite_false, reduceIte, IC, bI_0, bI_1, bF, Bool.not_eq_false, Bool.not_eq_true, Bool.and_true, Bool.true_and, Bool.and_false, Bool.false_and, Bool.true_or, Bool.or_true, Bool.or_false, Bool.false_or, Bool.not_true, Bool.not_false, decide_true, decide_false, not_true_eq_false, not_false_eq_true, eq_self, Bool.true_eq_false, Bool.false_eq_true, hl, hlt, h30, e1, B89_26, e2]
end ClsH
