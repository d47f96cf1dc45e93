/-! sets of answers as bits -/
def bcV (x : Int32) : Int32 := ((((((((x - (((x.toUInt32 >>> ((1 : Int32).toUInt32 &&& Int32.toUInt32 31)).toInt32) &&& 1431655765)) &&& 858993459) + ((((x - (((x.toUInt32 >>> ((1 : Int32).toUInt32 &&& Int32.toUInt32 31)).toInt32) &&& 1431655765)).toUInt32 >>> ((2 : Int32).toUInt32 &&& Int32.toUInt32 31)).toInt32) &&& 858993459)) + (((((x - (((x.toUInt32 >>> ((1 : Int32).toUInt32 &&& Int32.toUInt32 31)).toInt32) &&& 1431655765)) &&& 858993459) + ((((x - (((x.toUInt32 >>> ((1 : Int32).toUInt32 &&& Int32.toUInt32 31)).toInt32) &&& 1431655765)).toUInt32 >>> ((2 : Int32).toUInt32 &&& Int32.toUInt32 31)).toInt32) &&& 858993459)).toUInt32 >>> ((4 : Int32).toUInt32 &&& Int32.toUInt32 31)).toInt32)) &&& 252645135) + (((((((x - (((x.toUInt32 >>> ((1 : Int32).toUInt32 &&& Int32.toUInt32 31)).toInt32) &&& 1431655765)) &&& 858993459) + ((((x - (((x.toUInt32 >>> ((1 : Int32).toUInt32 &&& Int32.toUInt32 31)).toInt32) &&& 1431655765)).toUInt32 >>> ((2 : Int32).toUInt32 &&& Int32.toUInt32 31)).toInt32) &&& 858993459)) + (((((x - (((x.toUInt32 >>> ((1 : Int32).toUInt32 &&& Int32.toUInt32 31)).toInt32) &&& 1431655765)) &&& 858993459) + ((((x - (((x.toUInt32 >>> ((1 : Int32).toUInt32 &&& Int32.toUInt32 31)).toInt32) &&& 1431655765)).toUInt32 >>> ((2 : Int32).toUInt32 &&& Int32.toUInt32 31)).toInt32) &&& 858993459)).toUInt32 >>> ((4 : Int32).toUInt32 &&& Int32.toUInt32 31)).toInt32)) &&& 252645135).toUInt32 >>> ((8 : Int32).toUInt32 &&& Int32.toUInt32 31)).toInt32)) + ((((((((x - (((x.toUInt32 >>> ((1 : Int32).toUInt32 &&& Int32.toUInt32 31)).toInt32) &&& 1431655765)) &&& 858993459) + ((((x - (((x.toUInt32 >>> ((1 : Int32).toUInt32 &&& Int32.toUInt32 31)).toInt32) &&& 1431655765)).toUInt32 >>> ((2 : Int32).toUInt32 &&& Int32.toUInt32 31)).toInt32) &&& 858993459)) + (((((x - (((x.toUInt32 >>> ((1 : Int32).toUInt32 &&& Int32.toUInt32 31)).toInt32) &&& 1431655765)) &&& 858993459) + ((((x - (((x.toUInt32 >>> ((1 : Int32).toUInt32 &&& Int32.toUInt32 31)).toInt32) &&& 1431655765)).toUInt32 >>> ((2 : Int32).toUInt32 &&& Int32.toUInt32 31)).toInt32) &&& 858993459)).toUInt32 >>> ((4 : Int32).toUInt32 &&& Int32.toUInt32 31)).toInt32)) &&& 252645135) + (((((((x - (((x.toUInt32 >>> ((1 : Int32).toUInt32 &&& Int32.toUInt32 31)).toInt32) &&& 1431655765)) &&& 858993459) + ((((x - (((x.toUInt32 >>> ((1 : Int32).toUInt32 &&& Int32.toUInt32 31)).toInt32) &&& 1431655765)).toUInt32 >>> ((2 : Int32).toUInt32 &&& Int32.toUInt32 31)).toInt32) &&& 858993459)) + (((((x - (((x.toUInt32 >>> ((1 : Int32).toUInt32 &&& Int32.toUInt32 31)).toInt32) &&& 1431655765)) &&& 858993459) + ((((x - (((x.toUInt32 >>> ((1 : Int32).toUInt32 &&& Int32.toUInt32 31)).toInt32) &&& 1431655765)).toUInt32 >>> ((2 : Int32).toUInt32 &&& Int32.toUInt32 31)).toInt32) &&& 858993459)).toUInt32 >>> ((4 : Int32).toUInt32 &&& Int32.toUInt32 31)).toInt32)) &&& 252645135).toUInt32 >>> ((8 : Int32).toUInt32 &&& Int32.toUInt32 31)).toInt32)).toUInt32 >>> ((16 : Int32).toUInt32 &&& Int32.toUInt32 31)).toInt32)) &&& 63)
theorem M_bc {X : mX} {d : Nat} {x : Int32} {h : mH} : Rn X d 285 0 [.int x] [] h = some ([.int (bcV x)], h) := B285_0
def cS (n : Nat) (b : Nat → Bool) : Int32 := foldA (fun a acc => acc ||| (bif b a then (1 : Int32) <<< (Int32.ofNat a &&& 31) else (0 : Int32))) 0 n 0
def cO (n : Nat) (b : Nat → Bool) : Nat := foldA (fun a acc => bif b a then acc + 1 else acc) 0 n 0
def onG : Nat → Int32 → Int32 → Option Int32
  | 0, _, _ => none
  | k + 1, acc, v => if v = 0 then some acc else onG k (acc + 1) (v &&& (v - 1))
theorem bits_ex (b : Nat → Bool) : ∀ n, ∃ j, j < 2 ^ n ∧ ∀ a, a < n → j.testBit a = b a
  | 0 => ⟨0, by decide, fun a ha => by omega⟩
  | n + 1 => by
    obtain ⟨j, h1, h2⟩ := bits_ex b n
    cases hb : b n with
    | false =>
      refine ⟨j, by rw [Nat.pow_succ]; omega, fun a ha => ?_⟩
      by_cases han : a = n
      · subst han; rw [hb, Nat.testBit_lt_two_pow h1]
      · exact h2 a (by omega)
    | true =>
      refine ⟨2 ^ n + j, by rw [Nat.pow_succ]; omega, fun a ha => ?_⟩
      by_cases han : a = n
      · subst han; rw [hb, Nat.testBit_two_pow_add_eq, Nat.testBit_lt_two_pow h1]; rfl
      · rw [Nat.testBit_two_pow_add_gt (by omega)]; exact h2 a (by omega)
theorem foldA_of {α : Type} {F G : Nat → α → α} : ∀ k i acc, (∀ a acc, i ≤ a → a < i + k → F a acc = G a acc) → foldA F i k acc = foldA G i k acc
  | 0, _, _, _ => rfl
  | k + 1, i, acc, h => by
    unfold foldA
    rw [h i acc (by omega) (by omega)]
    exact foldA_of k (i + 1) _ (fun a acc h1 h2 => h a acc (by omega) (by omega))
theorem cS_of {n : Nat} {b c : Nat → Bool} (h : ∀ a, a < n → b a = c a) : cS n b = cS n c := foldA_of _ _ _ (fun a acc _ h2 => by rw [h a (by omega)])
theorem cO_of {n : Nat} {b c : Nat → Bool} (h : ∀ a, a < n → b a = c a) : cO n b = cO n c := foldA_of _ _ _ (fun a acc _ h2 => by rw [h a (by omega)])
def bitsT (n : Nat) : Bool := (List.range 512).all fun j => (List.range n).all (fun a => decide ((cS n j.testBit >>> (Int32.ofNat a &&& 31)) &&& 1 = bI (j.testBit a))) && (decide (cS n j.testBit = 0) == decide (cO n j.testBit = 0)) && decide (onG 12 0 (cS n j.testBit) = some (Int32.ofNat (cO n j.testBit))) && decide (bcV (cS n j.testBit) = Int32.ofNat (cO n j.testBit)) && decide (cO n j.testBit < 10)
theorem bitsT_0 : bitsT 0 = true := by decide +kernel
theorem bitsT_1 : bitsT 1 = true := by decide +kernel
theorem bitsT_2 : bitsT 2 = true := by decide +kernel
theorem bitsT_3 : bitsT 3 = true := by decide +kernel
theorem bitsT_4 : bitsT 4 = true := by decide +kernel
theorem bitsT_5 : bitsT 5 = true := by decide +kernel
theorem bitsT_6 : bitsT 6 = true := by decide +kernel
theorem bitsT_7 : bitsT 7 = true := by decide +kernel
theorem bitsT_8 : bitsT 8 = true := by decide +kernel
theorem bitsT_9 : bitsT 9 = true := by decide +kernel
theorem bitsT_all {n : Nat} (h : n ≤ 9) : bitsT n = true := by
  have : n = 0 ∨ n = 1 ∨ n = 2 ∨ n = 3 ∨ n = 4 ∨ n = 5 ∨ n = 6 ∨ n = 7 ∨ n = 8 ∨ n = 9 := by omega
  rcases this with rfl | rfl | rfl | rfl | rfl | rfl | rfl | rfl | rfl | rfl
  · exact bitsT_0
  · exact bitsT_1
  · exact bitsT_2
  · exact bitsT_3
  · exact bitsT_4
  · exact bitsT_5
  · exact bitsT_6
  · exact bitsT_7
  · exact bitsT_8
  · exact bitsT_9
theorem bits {n : Nat} (h : n ≤ 9) (b : Nat → Bool) : (∀ a, a < n → (cS n b >>> (Int32.ofNat a &&& 31)) &&& 1 = bI (b a)) ∧ (cS n b = 0 ↔ cO n b = 0) ∧ onG 12 0 (cS n b) = some (Int32.ofNat (cO n b)) ∧ bcV (cS n b) = Int32.ofNat (cO n b) ∧ cO n b < 10 := by
  obtain ⟨j, h1, h2⟩ := bits_ex b 9
  have e1 : cS n b = cS n j.testBit := cS_of (fun a ha => (h2 a (by omega)).symm)
  have e2 : cO n b = cO n j.testBit := cO_of (fun a ha => (h2 a (by omega)).symm)
  have ht := bitsT_all h
  unfold bitsT at ht
  rw [List.all_eq_true] at ht
  have hj := ht j (List.mem_range.mpr (by simpa using h1))
  simp only [Bool.and_eq_true, List.all_eq_true, List.mem_range, decide_eq_true_eq] at hj
  rw [e1, e2]
  refine ⟨fun a ha => ?_, ?_, hj.1.1.2, hj.1.2, hj.2⟩
  · rw [hj.1.1.1.1 a ha, h2 a (by omega)]
  · have q := hj.1.1.1.2
    rw [beq_iff_eq, decide_eq_decide] at q
    exact q
theorem M_ones {X : mX} {d : Nat} {x : Int32} {h : mH} : ∀ k acc v r, onG k acc v = some r → Rn X d 227 4 [.int x, .int acc, .int v] [] h = some ([.int r], h)
  | 0, _, _, _, hr => by cases hr
  | k + 1, acc, v, r, hr => by
    unfold onG at hr
    rw [B227_4]
    by_cases hv : v = 0
    · rw [if_pos hv] at hr ⊢; cases hr; rfl
    · rw [if_neg hv] at hr ⊢; exact M_ones k _ _ r hr
theorem foldA_bnd {F : Nat → Nat → Nat} (hF : ∀ a acc, F a acc ≤ acc + 1) : ∀ k i acc, foldA F i k acc ≤ acc + k
  | 0, _, _ => Nat.le_refl _
  | k + 1, i, acc => by
    have h1 := foldA_bnd hF k (i + 1) (F i acc)
    have h2 := hF i acc
    show foldA F (i + 1) k (F i acc) ≤ _
    omega
