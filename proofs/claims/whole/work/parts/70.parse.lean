/-! the rules' text: what both readers make of it -/
def isLt (x : Int32) : Bool := bt x 97 122
def isDg (x : Int32) : Bool := bt x 48 57
def ruC (c x : Int32) : Bool := (isLt c && isLt x) || (isDg c && isDg x)
def enF (b : Nat → Int32) (c : Int32) : Nat → Nat → Nat
  | 0, i => i
  | k + 1, i => bif ruC c (b i) then enF b c k (i + 1) else i
/-- where the token at p ends -/
def enP (b : Nat → Int32) (n p : Nat) : Nat := enF b (b p) (n - (p + 1)) (p + 1)
def subL (b : Nat → Int32) : Nat → Nat → List Int32
  | _, 0 => []
  | p, k + 1 => b p :: subL b (p + 1) k
def WL : List (List Int32) := [[97, 110, 115, 119, 101, 114], [115, 111, 111, 110], [103, 97, 109, 101], [115, 111, 110, 103], [98, 105, 115, 99, 117, 105, 116], [115, 116, 111, 112], [109, 111, 114, 101], [108, 101, 115, 115], [110, 105, 108], [105, 102], [111, 114], [97, 110, 100], [110, 111, 116], [108, 101, 103], [109, 111, 111, 100], [116, 111, 108, 100], [98, 101, 108, 105, 101, 102], [110, 117, 109, 98, 101, 114]]
def wdF : Nat → List (List Int32) → List Int32 → Int32
  | _, [], _ => 20
  | i, u :: L, w => if w = u then Int32.ofNat i else wdF (i + 1) L w
def wdI (w : List Int32) : Int32 := wdF 0 WL w
def sgn6 (c : Int32) : Bool := decide (c = 60) || decide (c = 61) || decide (c = 62) || decide (c = 40) || decide (c = 41) || decide (c = 59)
def srF (b : Nat → Int32) (n p : Nat) : Int32 := bif isLt (b p) then wdI (subL b p (enP b n p - p)) else bif isDg (b p) then (if enP b n p - p ≤ 4 then 18 else 20) else bif sgn6 (b p) then b p else 20
def nuF (b : Nat → Int32) : Nat → Nat → Int32 → Int32
  | _, 0, a => a
  | p, k + 1, a => nuF b (p + 1) k (a * 10 + (b p - 48))
def vaF (b : Nat → Int32) (n p : Nat) : Int32 := if srF b n p = 18 then nuF b p (enP b n p - p) 0 else 12 - srF b n p
/-- the places where tokens begin -/
def tkF (b : Nat → Int32) (n : Nat) : Nat → Nat → List Nat
  | 0, _ => []
  | k + 1, i => if i < n then (if b i = 32 then tkF b n k (i + 1) else i :: tkF b n k (enP b n i)) else []
def tk (b : Nat → Int32) (n i : Nat) : List Nat := tkF b n (n - i) i
def hS (b : Nat → Int32) (n : Nat) : List Nat → Int32
  | [] => 19
  | p :: _ => srF b n p
def hV (b : Nat → Int32) (n : Nat) : List Nat → Int32
  | [] => 0
  | p :: _ => vaF b n p
def hP (n : Nat) : List Nat → Nat
  | [] => n
  | p :: _ => p
def hE (b : Nat → Int32) (n : Nat) : List Nat → Nat
  | [] => n
  | p :: _ => enP b n p
/-- well made: tokens as they come -/
def Gt (b : Nat → Int32) (n : Nat) : List Nat → Prop
  | [] => True
  | p :: T => p < n ∧ T = tk b n (enP b n p)
abbrev pSt : Type := Int32 × Int32 × Int32
abbrev pRs : Type := Bool × List Nat × List pSt
def isV (x : Int32) : Bool := decide (x = 18) || bt x 13 17
def isG (x : Int32) : Bool := decide (x = 60) || decide (x = 61) || decide (x = 62)
def cmpP (S V : List Nat → Int32) (T : List Nat) (A : List pSt) : pRs :=
  bif isV (S T) then (bif isG (S T.tail) then (bif isV (S T.tail.tail) then (true, T.tail.tail.tail, A ++ [(S T.tail, V T, V T.tail.tail)]) else (false, T.tail.tail, A)) else (false, T.tail, A)) else (false, T, A)
def notP (S : List Nat → Int32) : Bool → List Nat → Bool × List Nat
  | g, [] => (g, [])
  | g, p :: T => if S (p :: T) = 12 then notP S (!g) T else (g, p :: T)
def cA (o : Bool) (A : List pSt) (x : Int32) : List pSt := bif o then A ++ [(x, 0, 0)] else A
def on1 (S V : List Nat → Int32) (G : List Nat → List pSt → pRs) (T : List Nat) (A : List pSt) : pRs := if S T = 40 then G T A else cmpP S V T A
def oneP (S V : List Nat → Int32) (G : List Nat → List pSt → pRs) (T : List Nat) (A : List pSt) : pRs :=
  ((on1 S V G (notP S false T).2 A).1, (on1 S V G (notP S false T).2 A).2.1, cA ((on1 S V G (notP S false T).2 A).1 && (notP S false T).1) (on1 S V G (notP S false T).2 A).2.2 12)
def cndP (S V : List Nat → Int32) (G : List Nat → List pSt → pRs) : Nat → Bool → Bool → List Nat → List pSt → pRs
  | 0, _, _, T, A => (false, T, A)
  | k + 1, o, l, T, A => bif (oneP S V G T A).1 then
      (if S (oneP S V G T A).2.1 = 11 then cndP S V G k true l (oneP S V G T A).2.1.tail (cA o (oneP S V G T A).2.2 11)
       else if S (oneP S V G T A).2.1 = 10 then cndP S V G k false true (oneP S V G T A).2.1.tail (cA l (cA o (oneP S V G T A).2.2 11) 10)
       else (true, (oneP S V G T A).2.1, cA l (cA o (oneP S V G T A).2.2 11) 10))
    else (false, (oneP S V G T A).2.1, (oneP S V G T A).2.2)
def grpP (S V : List Nat → Int32) : Nat → List Nat → List pSt → pRs
  | 0, T, A => (false, T, A)
  | r + 1, T, A => ((cndP S V (grpP S V r) 200 false false T.tail A).1 && decide (S (cndP S V (grpP S V r) 200 false false T.tail A).2.1 = 41),
      (if ((cndP S V (grpP S V r) 200 false false T.tail A).1 && decide (S (cndP S V (grpP S V r) 200 false false T.tail A).2.1 = 41)) = true then (cndP S V (grpP S V r) 200 false false T.tail A).2.1.tail else (cndP S V (grpP S V r) 200 false false T.tail A).2.1), (cndP S V (grpP S V r) 200 false false T.tail A).2.2)
abbrev pRu : Type := Int32 × Int32 × Int32 × List pSt
def semP (S : List Nat → Int32) (u : pRu) (T : List Nat) : Option pRu × List Nat := if S T = 59 then (some u, T.tail) else (none, T)
def deeP (S V : List Nat → Int32) (k : Int32) (T : List Nat) (A : List pSt) : Option pRu × List Nat :=
  if S T = 8 then semP S (k, 8, 0, A) T.tail
  else if S T = 6 ∨ S T = 7 then (if S T.tail = 18 ∧ V T.tail ≤ 99 then semP S (k, S T, V T.tail, A) T.tail.tail else (none, T.tail))
  else (none, T)
def rulP (S V : List Nat → Int32) (c : Nat) (T : List Nat) : Option pRu × List Nat :=
  if c < 8 ∧ bt (S T) 0 5 = true then
    (if S T.tail = 9 then (bif (cndP S V (grpP S V 3) 200 false false T.tail.tail []).1 then deeP S V (S T) (cndP S V (grpP S V 3) 200 false false T.tail.tail []).2.1 (cndP S V (grpP S V 3) 200 false false T.tail.tail []).2.2 else (none, (cndP S V (grpP S V 3) 200 false false T.tail.tail []).2.1))
     else deeP S V (S T) T.tail [])
  else (none, T)
def rlsP (S V : List Nat → Int32) : Nat → List Nat → List pRu → Bool × List Nat × List pRu
  | 0, T, R => (false, T, R)
  | _ + 1, [], R => (true, [], R)
  | k + 1, p :: T, R => match (rulP S V R.length (p :: T)).1 with
    | none => (false, (rulP S V R.length (p :: T)).2, R)
    | some u => rlsP S V k (rulP S V R.length (p :: T)).2 (R ++ [u])
/-- the words' codes -/
def zR : List Int32 → Int
  | [] => 0
  | x :: L => if zR L ≤ 36028797018963967 then 32 * zR L + (x.toInt - 96) else zR L
def zF (w : List Int32) : Int := zR w.reverse
def CL : List Int := [48880818, 638446, 230821, 638407, 2469516596, 643568, 441925, 398963, 14636, 294, 498, 1476, 14836, 12455, 441828, 671108, 72754342, 492210354]
section Parse
variable {b : Nat → Int32} {n i j k p : Nat} {c x : Int32} {T : List Nat} {w u : List Int32}
theorem enF_ge : ∀ k i, i ≤ enF b c k i ∧ enF b c k i ≤ i + k
  | 0, i => ⟨Nat.le_refl _, Nat.le_refl _⟩
  | k + 1, i => by
    simp only [enF]
    have := enF_ge k (i + 1)
    cases ruC c (b i)
    · exact ⟨Nat.le_refl _, Nat.le_add_right _ _⟩
    · exact ⟨by show i ≤ enF b c k (i + 1); omega, by show enF b c k (i + 1) ≤ _; omega⟩
theorem enF_in : ∀ k i j, i ≤ j → j < enF b c k i → ruC c (b j) = true
  | 0, i, j, h1, h2 => by simp only [enF] at h2; omega
  | k + 1, i, j, h1, h2 => by
    simp only [enF] at h2
    cases hr : ruC c (b i) with
    | false => rw [hr] at h2; exact absurd (show j < i from h2) (by omega)
    | true =>
      rw [hr] at h2
      by_cases hj : j = i
      · rw [hj]; exact hr
      · exact enF_in k (i + 1) j (by omega) h2
theorem enP_b (h : p < n) : p + 1 ≤ enP b n p ∧ enP b n p ≤ n := by
  have := enF_ge (b := b) (c := b p) (n - (p + 1)) (p + 1)
  unfold enP
  omega
theorem tkF_irr : ∀ k k' i, n - i ≤ k → n - i ≤ k' → tkF b n k i = tkF b n k' i
  | 0, 0, _, _, _ => rfl
  | 0, k' + 1, i, h, _ => by simp only [tkF]; rw [if_neg (by omega)]
  | k + 1, 0, i, _, h => by simp only [tkF]; rw [if_neg (by omega)]
  | k + 1, k' + 1, i, h, h' => by
    simp only [tkF]
    by_cases hi : i < n
    · rw [if_pos hi, if_pos hi]
      by_cases hb : b i = 32
      · rw [if_pos hb, if_pos hb, tkF_irr k k' (i + 1) (by omega) (by omega)]
      · have := enP_b (b := b) hi
        rw [if_neg hb, if_neg hb, tkF_irr k k' (enP b n i) (by omega) (by omega)]
    · rw [if_neg hi, if_neg hi]
theorem tk_n (h : n ≤ i) : tk b n i = [] := by
  unfold tk
  rw [show n - i = 0 by omega]; rfl
theorem tk_b (h : i < n) (hb : b i = 32) : tk b n i = tk b n (i + 1) := by
  unfold tk
  rw [show n - i = (n - (i + 1)) + 1 by omega]
  show (if i < n then (if b i = 32 then tkF b n (n - (i + 1)) (i + 1) else i :: tkF b n (n - (i + 1)) (enP b n i)) else []) = _
  rw [if_pos h, if_pos hb]
theorem tk_t (h : i < n) (hb : ¬ b i = 32) : tk b n i = i :: tk b n (enP b n i) := by
  have := enP_b (b := b) h
  unfold tk
  rw [show n - i = (n - (i + 1)) + 1 by omega]
  show (if i < n then (if b i = 32 then tkF b n (n - (i + 1)) (i + 1) else i :: tkF b n (n - (i + 1)) (enP b n i)) else []) = _
  rw [if_pos h, if_neg hb, tkF_irr (n - (i + 1)) (n - enP b n i) _ (by omega) (by omega)]
theorem tk_g : ∀ k i, i + k = n → Gt b n (tk b n i) ∧ (tk b n i).length + hP n (tk b n i) ≤ n ∧ i ≤ hP n (tk b n i)
  | 0, i, h => by rw [tk_n (by omega)]; exact ⟨trivial, by show 0 + n ≤ n; omega, by show i ≤ n; omega⟩
  | k + 1, i, h => by
    by_cases hb : b i = 32
    · rw [tk_b (by omega) hb]
      have := tk_g k (i + 1) (by omega)
      exact ⟨this.1, this.2.1, by omega⟩
    · have he := enP_b (b := b) (show i < n by omega)
      rw [tk_t (by omega) hb]
      refine ⟨⟨by omega, rfl⟩, ?_, Nat.le_refl _⟩
      have h2 : ∀ j, i < j → j ≤ n → (tk b n j).length + j ≤ n := by
        intro j h1 h2
        have := tk_g (n - j) j (by omega)
        omega
      have := h2 _ (show i < enP b n i by omega) he.2
      show (tk b n (enP b n i)).length + 1 + i ≤ n
      omega
termination_by k => k
decreasing_by all_goals omega
theorem tk_G (h : i ≤ n) : Gt b n (tk b n i) := (tk_g (n - i) i (by omega)).1
theorem gt_tk (g : Gt b n T) : T.tail = tk b n (hE b n T) := by
  cases T with
  | nil => exact (tk_n (Nat.le_refl _)).symm
  | cons p T => exact g.2
theorem gt_hE (g : Gt b n T) : hP n T ≤ hE b n T ∧ hE b n T ≤ n ∧ hE b n T ≤ hP n T.tail ∧ (T ≠ [] → hP n T + 1 ≤ hE b n T) := by
  cases T with
  | nil => exact ⟨Nat.le_refl _, Nat.le_refl _, Nat.le_refl _, fun h => absurd rfl h⟩
  | cons p T =>
    have h1 := enP_b (b := b) g.1
    have h2 := (tk_g (b := b) (n := n) (n - enP b n p) (enP b n p) (by omega)).2.2
    rw [show (p :: T).tail = T from rfl, g.2]
    exact ⟨by show p ≤ enP b n p; omega, h1.2, h2, fun _ => by show p + 1 ≤ enP b n p; omega⟩
theorem gt_tl (g : Gt b n T) : Gt b n T.tail := by
  rw [gt_tk g]; exact tk_G (gt_hE g).2.1
theorem gt_P (g : Gt b n T) : hP n T ≤ n ∧ hP n T ≤ hP n T.tail ∧ (T ≠ [] → hP n T + 1 ≤ hP n T.tail) := by
  have h := gt_hE g
  exact ⟨by omega, by omega, fun q => by have := h.2.2.2 q; omega⟩
theorem gt_len (g : Gt b n T) : T.length + hP n T ≤ n := by
  cases T with
  | nil => show 0 + n ≤ n; omega
  | cons p T =>
    have h1 := enP_b (b := b) g.1
    have h2 := tk_g (b := b) (n := n) (n - enP b n p) (enP b n p) (by omega)
    rw [← g.2] at h2
    show T.length + 1 + p ≤ n
    omega
theorem subL_len : ∀ k p, (subL b p k).length = k
  | 0, _ => rfl
  | k + 1, p => by show (subL b (p + 1) k).length + 1 = _; rw [subL_len k]
theorem subL_at : ∀ k p j, j < k → (subL b p k)[j]? = some (b (p + j))
  | 0, _, _, h => by omega
  | k + 1, p, 0, _ => rfl
  | k + 1, p, j + 1, h => by
    show (subL b (p + 1) k)[j]? = _
    rw [subL_at k (p + 1) j (by omega), Nat.add_assoc, Nat.add_comm 1 j]
theorem subL_mem : ∀ k p x, x ∈ subL b p k → ∃ j, p ≤ j ∧ j < p + k ∧ x = b j
  | 0, _, _, h => by cases h
  | k + 1, p, x, h => by
    rcases List.mem_cons.mp h with rfl | h
    · exact ⟨p, Nat.le_refl _, by omega, rfl⟩
    · obtain ⟨j, h1, h2, h3⟩ := subL_mem k (p + 1) x h
      exact ⟨j, by omega, by omega, h3⟩
theorem tok_in (h1 : p ≤ j) (h2 : j < enP b n p) : j = p ∨ ruC (b p) (b j) = true := by
  by_cases hj : j = p
  · exact Or.inl hj
  · exact Or.inr (enF_in _ _ _ (by omega) h2)
theorem lt_dg (h : isLt x = true) : isDg x = false := by
  have := bt_iff.mp h
  exact bt_no.mpr (by omega)
theorem tok_lt (hl : isLt (b p) = true) (h1 : p ≤ j) (h2 : j < enP b n p) : isLt (b j) = true := by
  rcases tok_in h1 h2 with rfl | h
  · exact hl
  · unfold ruC at h
    rw [lt_dg hl] at h
    simp only [hl, Bool.true_and, Bool.false_and, Bool.or_false] at h
    exact h
theorem tok_dg (hl : isDg (b p) = true) (h1 : p ≤ j) (h2 : j < enP b n p) : isDg (b j) = true := by
  have hn : isLt (b p) = false := by
    cases q : isLt (b p) with
    | false => rfl
    | true => rw [lt_dg q] at hl; cases hl
  rcases tok_in h1 h2 with rfl | h
  · exact hl
  · unfold ruC at h
    rw [hn] at h
    simp only [hl, Bool.true_and, Bool.false_and, Bool.false_or] at h
    exact h
theorem wdF_b : ∀ (L : List (List Int32)) (j : Nat) (w : List Int32), (∃ k, j ≤ k ∧ k < j + L.length ∧ wdF j L w = Int32.ofNat k ∧ L[k - j]? = some w) ∨ (wdF j L w = 20 ∧ w ∉ L)
  | [], j, w => Or.inr ⟨rfl, by simp⟩
  | u :: L, j, w => by
    simp only [wdF]
    by_cases hw : w = u
    · refine Or.inl ⟨j, Nat.le_refl _, by simp, by rw [if_pos hw], ?_⟩
      rw [Nat.sub_self, hw]; rfl
    · rw [if_neg hw]
      rcases wdF_b L (j + 1) w with ⟨k, h1, h2, h3, h4⟩ | ⟨h1, h2⟩
      · refine Or.inl ⟨k, by omega, by simp; omega, h3, ?_⟩
        rw [show k - j = (k - (j + 1)) + 1 by omega]
        exact h4
      · exact Or.inr ⟨h1, fun h => by rcases List.mem_cons.mp h with q | q; exact hw q; exact h2 q⟩
theorem WL_n : WL.length = 18 := rfl
theorem WL_inj : ∀ i, i < 18 → ∀ k, k < 18 → WL[i]? = WL[k]? → i = k := by decide +kernel
theorem wd_iff (hi : i < 18) : wdI w = Int32.ofNat i ↔ WL[i]? = some w := by
  unfold wdI
  rcases wdF_b WL 0 w with ⟨k, h1, h2, h3, h4⟩ | ⟨h1, h2⟩
  · rw [WL_n] at h2
    rw [Nat.sub_zero] at h4
    rw [h3, iN_inj (by omega) (by omega)]
    constructor
    · intro e; rw [← e]; exact h4
    · intro e; exact WL_inj k (by omega) i hi (h4.trans e.symm)
  · rw [h1, show (20 : Int32) = Int32.ofNat 20 from rfl, iN_inj (by omega) (by omega)]
    constructor
    · intro e; omega
    · intro e; exact absurd (List.mem_of_getElem? e) h2
theorem wdI_b : (∃ k, k < 18 ∧ wdI w = Int32.ofNat k) ∨ wdI w = 20 := by
  rcases wdF_b WL 0 w with ⟨k, h1, h2, h3, h4⟩ | ⟨h1, h2⟩
  · rw [WL_n] at h2
    exact Or.inl ⟨k, by omega, h3⟩
  · exact Or.inr h1
def ltr (x : Int32) : Prop := isLt x = true
theorem zR_0 : ∀ w : List Int32, (∀ x ∈ w, ltr x) → 0 ≤ zR w
  | [], _ => Int.le_refl _
  | x :: w, h => by
    have h1 := zR_0 w (fun y hy => h y (List.mem_cons_of_mem _ hy))
    have h2 := bt_iff.mp (h x List.mem_cons_self)
    simp only [zR]
    split <;> omega
theorem zR_inj : ∀ w u : List Int32, (∀ x ∈ w, ltr x) → (∀ x ∈ u, ltr x) → zR u ≤ 36028797018963967 → zR w = zR u → w = u
  | [], [], _, _, _, _ => rfl
  | [], y :: u, _, hu, hb, e => by
    have h1 := zR_0 u (fun z hz => hu z (List.mem_cons_of_mem _ hz))
    have h2 := bt_iff.mp (hu y List.mem_cons_self)
    simp only [zR] at e
    split at e <;> omega
  | x :: w, [], hw, _, hb, e => by
    have h1 := zR_0 w (fun z hz => hw z (List.mem_cons_of_mem _ hz))
    have h2 := bt_iff.mp (hw x List.mem_cons_self)
    simp only [zR] at e
    split at e <;> omega
  | x :: w, y :: u, hw, hu, hb, e => by
    have hw' := fun z hz => hw z (List.mem_cons_of_mem _ hz)
    have hu' := fun z hz => hu z (List.mem_cons_of_mem _ hz)
    have h1 := zR_0 w hw'
    have h2 := bt_iff.mp (hw x List.mem_cons_self)
    have h3 := zR_0 u hu'
    have h4 := bt_iff.mp (hu y List.mem_cons_self)
    have hbw : zR (x :: w) ≤ 36028797018963967 := by rw [e]; exact hb
    simp only [zR] at e hb hbw
    have c1 : zR w ≤ 36028797018963967 := by
      by_cases q : zR w ≤ 36028797018963967
      · exact q
      · rw [if_neg q] at hbw; exact absurd hbw q
    have c2 : zR u ≤ 36028797018963967 := by
      by_cases q : zR u ≤ 36028797018963967
      · exact q
      · rw [if_neg q] at hb; exact absurd hb q
    rw [if_pos c1, if_pos c2] at e
    have e1 : zR w = zR u := by omega
    have e2 : x.toInt = y.toInt := by omega
    rw [zR_inj w u hw' hu' c2 e1, Int32.toInt_inj.mp e2]
def wlT : Bool := (List.range 18).all fun i => match WL[i]?, CL[i]? with
  | some u, some z => decide (zF u = z) && decide (zF u ≤ 36028797018963967) && u.all isLt
  | _, _ => false
theorem wlT_ok : wlT = true := by decide +kernel
theorem wl_at (hi : i < 18) : ∃ u z, WL[i]? = some u ∧ CL[i]? = some z ∧ zF u = z ∧ zF u ≤ 36028797018963967 ∧ ∀ x ∈ u, ltr x := by
  have h1 := wlT_ok
  unfold wlT at h1
  rw [List.all_eq_true] at h1
  have h2 := h1 i (List.mem_range.mpr hi)
  revert h2
  cases hu : WL[i]? with
  | none => intro h2; cases h2
  | some u =>
    cases hz : CL[i]? with
    | none => intro h2; cases h2
    | some z =>
      intro h2
      simp only [Bool.and_eq_true, decide_eq_true_eq, List.all_eq_true] at h2
      exact ⟨u, z, rfl, rfl, h2.1.1, h2.1.2, h2.2⟩
/-- the word's code at the head -/
def wcZ (b : Nat → Int32) (n : Nat) : List Nat → Int
  | [] => 0
  | p :: _ => bif isLt (b p) then zF (subL b p (enP b n p - p)) else 0
theorem subL_lt (hl : isLt (b p) = true) : ∀ x ∈ subL b p (enP b n p - p), ltr x := by
  intro x hx
  obtain ⟨j, h1, h2, rfl⟩ := subL_mem _ _ _ hx
  exact tok_lt (n := n) hl h1 (by omega)
theorem sr_hi (hl : isLt (b p) = false) : srF b n p = 18 ∨ srF b n p = 20 ∨ (sgn6 (b p) = true ∧ srF b n p = b p) := by
  unfold srF
  rw [hl]
  cases isDg (b p) with
  | true =>
    simp only [cond_false, cond_true]
    by_cases h : enP b n p - p ≤ 4
    · rw [if_pos h]; exact Or.inl rfl
    · rw [if_neg h]; exact Or.inr (Or.inl rfl)
  | false =>
    cases h : sgn6 (b p) with
    | true => exact Or.inr (Or.inr ⟨rfl, rfl⟩)
    | false => exact Or.inr (Or.inl rfl)
theorem sgn6_c (h : sgn6 c = true) : c = 60 ∨ c = 61 ∨ c = 62 ∨ c = 40 ∨ c = 41 ∨ c = 59 := by
  unfold sgn6 at h
  simp only [Bool.or_eq_true, decide_eq_true_eq] at h
  rcases h with ((((h | h) | h) | h) | h) | h
  · exact Or.inl h
  · exact Or.inr (Or.inl h)
  · exact Or.inr (Or.inr (Or.inl h))
  · exact Or.inr (Or.inr (Or.inr (Or.inl h)))
  · exact Or.inr (Or.inr (Or.inr (Or.inr (Or.inl h))))
  · exact Or.inr (Or.inr (Or.inr (Or.inr (Or.inr h))))
theorem sr_nw (hl : isLt (b p) = false) (hi : i < 18) : ¬ srF b n p = Int32.ofNat i := by
  intro e
  rcases sr_hi (n := n) hl with h | h | ⟨h1, h⟩
  · rw [h, show (18 : Int32) = Int32.ofNat 18 from rfl, iN_inj (by omega) (by omega)] at e; omega
  · rw [h, show (20 : Int32) = Int32.ofNat 20 from rfl, iN_inj (by omega) (by omega)] at e; omega
  · rw [h] at e
    have h3 : (b p).toInt = (i : Int) := by rw [e, iN_ti (by omega)]
    rcases sgn6_c h1 with q | q | q | q | q | q <;> rw [q] at h3
    · exact absurd (show (60 : Int) = (i : Int) from h3) (by omega)
    · exact absurd (show (61 : Int) = (i : Int) from h3) (by omega)
    · exact absurd (show (62 : Int) = (i : Int) from h3) (by omega)
    · exact absurd (show (40 : Int) = (i : Int) from h3) (by omega)
    · exact absurd (show (41 : Int) = (i : Int) from h3) (by omega)
    · exact absurd (show (59 : Int) = (i : Int) from h3) (by omega)
theorem wc_iff {z : Int} (hi : i < 18) (hz : CL[i]? = some z) (h0 : ¬ z = 0) : wcZ b n T = z ↔ hS b n T = Int32.ofNat i := by
  cases T with
  | nil =>
    show (0 : Int) = z ↔ (19 : Int32) = _
    rw [show (19 : Int32) = Int32.ofNat 19 from rfl, iN_inj (by omega) (by omega)]
    constructor
    · intro e; exact absurd e.symm h0
    · intro e; omega
  | cons p T =>
    show (bif isLt (b p) then zF (subL b p (enP b n p - p)) else 0) = z ↔ srF b n p = _
    cases hl : isLt (b p) with
    | false =>
      constructor
      · intro e; exact absurd e.symm h0
      · intro e; exact absurd e (sr_nw hl hi)
    | true =>
      obtain ⟨u, z', h1, h2, h3, h4, h5⟩ := wl_at hi
      rw [hz] at h2
      cases h2
      unfold srF
      rw [hl]
      simp only [cond_true]
      rw [wd_iff hi, h1]
      constructor
      · intro e
        have e2 : zR (subL b p (enP b n p - p)).reverse = zR u.reverse := e.trans h3.symm
        have e3 := zR_inj _ _ (fun x hx => subL_lt (n := n) hl x (List.mem_reverse.mp hx)) (fun x hx => h5 x (List.mem_reverse.mp hx)) h4 e2
        rw [List.reverse_inj.mp e3]
      · intro e
        cases e
        exact h3
/-- a word's length -/
theorem wd_len (hi : i < 18) (h : hS b n T = Int32.ofNat i) : ∃ u, WL[i]? = some u ∧ hE b n T = hP n T + u.length := by
  cases T with
  | nil =>
    rw [show hS b n [] = Int32.ofNat 19 from rfl, iN_inj (by omega) (by omega)] at h
    omega
  | cons p T =>
    have h' : srF b n p = Int32.ofNat i := h
    cases hl : isLt (b p) with
    | false => exact absurd h' (sr_nw hl hi)
    | true =>
      unfold srF at h'
      rw [hl] at h'
      simp only [cond_true] at h'
      rw [wd_iff hi] at h'
      refine ⟨_, h', ?_⟩
      rw [subL_len]
      show enP b n p = p + _
      have : p + 1 ≤ enP b n p := (enF_ge (b := b) (c := b p) (n - (p + 1)) (p + 1)).1
      omega
end Parse
