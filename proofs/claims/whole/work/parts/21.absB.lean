/-! searches, as functions of the row -/
def foldA {α : Type} (f : Nat → α → α) : Nat → Nat → α → α
  | _, 0, acc => acc
  | i, k + 1, acc => foldA f (i + 1) k (f i acc)
def findF (f : Nat → Bool) : Nat → Nat → Option Nat
  | _, 0 => none
  | i, k + 1 => if f i = true then some i else findF f (i + 1) k
def arrF : Nat → (Nat → Int32) → Bool
  | 0, s => ovV s
  | n + 1, s => ovV s || (findF (fun a => canV s a && arrF n (telS s a)) 0 (ctA s)).isSome
def fstR : Nat → (Nat → Int32) → List Nat
  | 0, _ => []
  | n + 1, s => bif ovV s then [] else (match findF (fun a => canV s a && arrF n (telS s a)) 0 (ctA s) with | none => [] | some a => a :: fstR n (telS s a))
def wayF : Nat → (Nat → Int32) → Int32
  | 0, s => bif ovV s then 1 else 0
  | n + 1, s => bif ovV s then 1 else foldA (fun a acc => bif canV s a then acc + wayF n (telS s a) else acc) 0 (ctA s) 0
def imx (acc v : Int32) : Int32 := if v ≤ acc then acc else v
def farF : Nat → (Nat → Int32) → Int32
  | 0, s => s 4
  | n + 1, s => foldA (fun a acc => bif canV s a then imx acc (farF n (telS s a)) else acc) 0 (ctA s) (s 4)
def kinF : Nat → (Nat → Int32) → Int32
  | 0, s => bif ovV s then s 5 else -1
  | n + 1, s => bif ovV s then s 5 else foldA (fun a acc => bif canV s a then imx acc (kinF n (telS s a)) else acc) 0 (ctA s) (-1)
def trnV (v : Int32) : Int32 := if v = 2 then 2 else 1 - v
def rnkV (v : Int32) : Int32 := if v = 0 then 2 else if v = 2 then 1 else 0
def btrV (acc v : Int32) : Int32 := if rnkV v ≤ rnkV acc then acc else v
def valF : Nat → (Nat → Int32) → Int32
  | 0, _ => 2
  | n + 1, s => bif ovV s then 2 else foldA (fun a acc => btrV acc (bif canV s a then trnV (valF n (telS s a)) else 1)) 0 (ctA s) 1
section AbsB
variable {s s' : Nat → Int32} {m : Int} {i j k n : Nat}
theorem tel_o (h1 : j ≠ 4) (h2 : j ≠ 5) (h3 : j ≠ 7 + 5 * i + 4) : telS s i j = s j := by unfold telS; rw [upd_o h3, upd_o h2, upd_o h1]
theorem tel_4 : telS s i 4 = s 4 + pasV s i := by unfold telS; rw [upd_o (by omega), upd_o (by omega), upd_s]
theorem tel_5 : telS s i 5 = s 5 - s (7 + 5 * i + 2) := by unfold telS; rw [upd_o (by omega), upd_s]
theorem tel_t : telS s i (7 + 5 * i + 4) = s (7 + 5 * i + 4) + 1 := by unfold telS; rw [upd_s]
theorem RuOK_of (h1 : s' 1 = s 1) (h : ∀ j, 86 ≤ j → s' j = s j) (q : RuOK s) : RuOK s' := by
  intro k hk
  have e1 : ctR s' = ctR s := by unfold ctR; rw [h1]
  have e2 : ∀ k, enN s' k = enN s k := fun k => by unfold enN; rw [h _ (by omega)]
  have e3 : frm s' k = frm s k := by cases k with
    | zero => rfl
    | succ k => exact e2 k
  have e4 : (fun j => s' (118 + j)) = fun j => s (118 + j) := by funext j; exact h _ (by omega)
  rw [e1] at hk
  rw [h (86 + 4 * k) (by omega), h (86 + 4 * k + 1) (by omega), h (86 + 4 * k + 2) (by omega), h (86 + 4 * k + 3) (by omega), e2, e3, e4]
  exact q k hk
theorem endF_of (h : ∀ j, j < 16 → s' (52 + j) = s (52 + j)) : ∀ k i e, i + k ≤ 8 → endF s' i k e = endF s i k e
  | 0, _, _, _ => rfl
  | k + 1, i, e, hk => by
    unfold endF
    rw [h (2 * i) (by omega)]
    exact endF_of h k (i + 1) _ (by omega)
theorem endF_b (g : ∀ j, j < 8 → j < n → bt (s (52 + 2 * j)) 1 99 = true) : ∀ k i e, i + k ≤ 8 → i + k ≤ n → 0 ≤ e.toInt → e.toInt ≤ 99 * (i : Int) → 0 ≤ (endF s i k e).toInt ∧ (endF s i k e).toInt ≤ 99 * ((i + k : Nat) : Int) ∧ e.toInt + (k : Int) ≤ (endF s i k e).toInt
  | 0, i, e, _, _, h1, h2 => ⟨h1, h2, by show e.toInt + ((0 : Nat) : Int) ≤ e.toInt; omega⟩
  | k + 1, i, e, hk, hn, h1, h2 => by
    have q := bt_iff.mp (g i (by omega) (by omega))
    unfold endF
    have e1 : (e + s (52 + 2 * i)).toInt = e.toInt + (s (52 + 2 * i)).toInt := t_add (by omega) (by omega)
    have r := endF_b g k (i + 1) (e + s (52 + 2 * i)) (by omega) (by omega) (by omega) (by omega)
    refine ⟨r.1, ?_, ?_⟩
    · have := r.2.1; rw [show i + 1 + k = i + (k + 1) by omega] at this; exact this
    · have := r.2.2; omega
theorem Gd.endb (g : Gd s m) : 0 ≤ (endV s).toInt ∧ (endV s).toInt ≤ 792 ∧ (ctL s : Int) ≤ (endV s).toInt := by
  have h2 := g.n2.2
  have r := endF_b (s := s) (n := ctL s) (fun j _ hj => (g.2.2 j hj).1) (ctL s) 0 0 (by omega) (by omega) (by decide) (by decide)
  have e : ((0 : Int32)).toInt = 0 := rfl
  unfold endV
  omega
theorem hld_1 : 1 ≤ (hldV s i).toInt := by
  have e : (1 : Int32).toInt = 1 := rfl
  unfold hldV hl2
  split
  · next h => rw [Int32.le_iff_toInt_le] at h; omega
  · omega
theorem pas_b (g : Gd s m) (h : ovV s = false) : 1 ≤ (pasV s i).toInt ∧ (s 4).toInt + (pasV s i).toInt ≤ (endV s).toInt ∧ (endV s - s 4).toInt = (endV s).toInt - (s 4).toInt := by
  have e1 := g.endb
  have e2 := bt_iff.mp g.1.2.2.2.2.1
  have e3 : ¬ (endV s).toInt ≤ (s 4).toInt := by
    intro q
    unfold ovV at h
    rw [decide_eq_false_iff_not, Int32.le_iff_toInt_le] at h
    exact h q
  have e4 : (endV s - s 4).toInt = (endV s).toInt - (s 4).toInt := t_sub (by omega) (by omega)
  have e5 := hld_1 (s := s) (i := i)
  unfold pasV
  split
  · next q => rw [Int32.le_iff_toInt_le] at q; omega
  · next q => rw [Int32.le_iff_toInt_le] at q; omega
theorem can_ov (h : canV s i = true) : ovV s = false := by
  unfold canV at h
  simp only [Bool.and_eq_true, Bool.not_eq_true'] at h
  exact h.1.1
theorem can_t (h : canV s i = true) : (s (7 + 5 * i + 4)).toInt < (s (7 + 5 * i + 3)).toInt := by
  unfold canV at h
  simp only [Bool.and_eq_true, decide_eq_true_eq] at h
  exact Int32.lt_iff_toInt_lt.mp h.1.2
theorem can_c (h : canV s i = true) : (s (7 + 5 * i + 2)).toInt ≤ (s 5).toInt := by
  unfold canV at h
  simp only [Bool.and_eq_true, decide_eq_true_eq] at h
  exact Int32.le_iff_toInt_le.mp h.2
theorem cN_tel (hi : i < 9) : ctA (telS s i) = ctA s := by unfold ctA; rw [tel_o (by omega) (by omega) (by omega)]
theorem Ok.tel (ok : Ok s m) (hm : m ≤ 10) (hi : i < ctA s) (hc : canV s i = true) : Ok (telS s i) m := by
  have h9 := ok.1.n0.2
  have h8 := ok.1.n2.2
  obtain ⟨⟨⟨g0, g1, g2, g3, g4, g5⟩, ga, gl⟩, gr⟩ := ok
  have pb := pas_b (i := i) ⟨⟨g0, g1, g2, g3, g4, g5⟩, ga, gl⟩ (can_ov hc)
  have eb := Gd.endb (s := s) (m := m) ⟨⟨g0, g1, g2, g3, g4, g5⟩, ga, gl⟩
  have hcc := can_c hc
  have hct := can_t hc
  have e4 := bt_iff.mp g4
  have e5 := bt_iff.mp g5
  obtain ⟨a1, a2, a3, a4, a5⟩ := ga i hi
  rw [bt_iff] at a3 a4 a5
  refine ⟨⟨⟨?_, ?_, ?_, ?_, ?_, ?_⟩, ?_, ?_⟩, RuOK_of (tel_o (by omega) (by omega) (by omega)) (fun j hj => tel_o (by omega) (by omega) (by omega)) gr⟩
  · rw [tel_o (by omega) (by omega) (by omega)]; exact g0
  · rw [tel_o (by omega) (by omega) (by omega)]; exact g1
  · rw [tel_o (by omega) (by omega) (by omega)]; exact g2
  · rw [tel_o (by omega) (by omega) (by omega)]; exact g3
  · rw [tel_4, bt_iff, t_add (by omega) (by omega)]; omega
  · rw [tel_5, bt_iff, t_sub (by omega) (by omega)]; omega
  · intro j hj
    rw [cN_tel (by omega)] at hj
    obtain ⟨b1, b2, b3, b4, b5⟩ := ga j hj
    refine ⟨?_, ?_, ?_, ?_, ?_⟩
    · rw [tel_o (by omega) (by omega) (by omega)]; exact b1
    · rw [tel_o (by omega) (by omega) (by omega)]; exact b2
    · rw [tel_o (by omega) (by omega) (by omega)]; exact b3
    · rw [tel_o (by omega) (by omega) (by omega)]; exact b4
    · by_cases hij : j = i
      · subst hij
        have e1 : (1 : Int32).toInt = 1 := rfl
        rw [tel_t, bt_iff, t_add (by omega) (by omega)]; omega
      · rw [tel_o (by omega) (by omega) (by omega)]; exact b5
  · intro k hk
    have e : ctL (telS s i) = ctL s := by unfold ctL; rw [tel_o (by omega) (by omega) (by omega)]
    rw [e] at hk
    rw [tel_o (by omega) (by omega) (by omega), tel_o (by omega) (by omega) (by omega)]
    exact gl k hk
end AbsB
