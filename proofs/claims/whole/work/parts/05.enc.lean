/-! what the small machine's values, cells and locals are on the true one -/
def encV (b aS N0 : Nat) : Value → Value
  | .ref k => .ref (N0 + k)
  | .retAddr 0 => .ref b
  | .retAddr _ => .ref aS
  | v => v
def encA (N0 : Nat) : vp_A → vp_A
  | (n, .inr (.inr (.inr (.inr f)))) => (n, .inr (.inr (.inr (.inr (fun i => (f i).map (N0 + ·))))))
  | a => a
def encE (b aS N0 : Nat) (dA : Nat → ClassId) : mE → va_E
  | .inl (t, a) => .inl (dA t, encA N0 a)
  | .inr (ci, fs) => .inr (ci, fs.map (encV b aS N0))
def wsOf (b aS N0 : Nat) (dA : Nat → ClassId) (h : mH) : va_W := h.mapIdx (fun k e => (N0 + k, encE b aS N0 dA e))
def esz : mE → Nat
  | .inl (_, a) => a.1
  | .inr (_, fs) => fs.length
def tot (h : mH) : Nat := (h.map esz).sum
section Enc
variable {b aS N0 : Nat} {dA : Nat → ClassId} {h : mH}
theorem wsOf_at {k : Nat} {e : mE} (hk : h[k]? = some e) : (wsOf b aS N0 dA h)[k]? = some (N0 + k, encE b aS N0 dA e) := by
  simp [wsOf, List.getElem?_mapIdx, hk]
theorem wsOf_inv {k : Nat} {q : Nat × va_E} (hk : (wsOf b aS N0 dA h)[k]? = some q) : ∃ e, h[k]? = some e ∧ q = (N0 + k, encE b aS N0 dA e) := by
  simp only [wsOf, List.getElem?_mapIdx, Option.map_eq_some_iff] at hk
  obtain ⟨e, h1, h2⟩ := hk
  exact ⟨e, h1, h2.symm⟩
theorem wsOf_len : (wsOf b aS N0 dA h).length = h.length := by simp [wsOf]
theorem wsOf_set {k : Nat} {e : mE} : wsOf b aS N0 dA (h.set k e) = (wsOf b aS N0 dA h).set k (N0 + k, encE b aS N0 dA e) := by
  apply List.ext_getElem?
  intro i
  simp only [wsOf, List.getElem?_mapIdx, List.getElem?_set, List.length_mapIdx]
  by_cases hi : k = i
  · subst hi
    by_cases hl : k < h.length <;> simp [hl]
  · simp [hi]
theorem wsOf_push {e : mE} : wsOf b aS N0 dA (h ++ [e]) = wsOf b aS N0 dA h ++ [(N0 + h.length, encE b aS N0 dA e)] := by
  simp [wsOf, List.mapIdx_append]
theorem wsOf_D : va_D (fun q => N0 ≤ q) (wsOf b aS N0 dA h) := by
  refine ⟨fun i j p q hi hj hpq => ?_, fun k q hk => ?_⟩
  · obtain ⟨e1, -, rfl⟩ := wsOf_inv hi
    obtain ⟨e2, -, rfl⟩ := wsOf_inv hj
    have h9 : N0 + i = N0 + j := hpq
    omega
  · obtain ⟨e1, -, rfl⟩ := wsOf_inv hk
    exact Nat.le_add_right _ _
theorem tot_set {k : Nat} {e e' : mE} (hk : h[k]? = some e) (he : esz e' = esz e) : tot (h.set k e') = tot h := by
  unfold tot
  rw [List.map_set]
  have h1 : (h.map esz).set k (esz e') = h.map esz := by
    apply List.ext_getElem?
    intro i
    rw [List.getElem?_set]
    by_cases hi : k = i
    · subst hi
      have hl := (List.getElem?_eq_some_iff.mp hk).1
      simp [hl, hk, he]
      rw [List.getElem?_eq_some_iff] at hk
      obtain ⟨_, h3⟩ := hk
      rw [h3]
    · simp [hi]
  rw [h1]
theorem tot_push {e : mE} : tot (h ++ [e]) = tot h + esz e := by simp [tot]
theorem tot_app {h2 : mH} : tot (h ++ h2) = tot h + tot h2 := by simp [tot]
theorem encV_cat (v : Value) : (encV b aS N0 v).category = v.category := by
  cases v with
  | retAddr k => cases k <;> rfl
  | _ => rfl
end Enc
/-- the locals as the kit has them -/
def lvAL (b aS N0 : Nat) (L : List Value) : List (Nat × Value) := (L.mapIdx fun i v => (i, v)).filterMap fun q => bif isFl q.2 then none else some (q.1, encV b aS N0 q.2)
theorem lvAL_mem {b aS N0 : Nat} {L : List Value} {q : Nat × Value} : q ∈ lvAL b aS N0 L ↔ ∃ v, L[q.1]? = some v ∧ isFl v = false ∧ q.2 = encV b aS N0 v := by
  unfold lvAL
  rw [List.mem_filterMap]
  constructor
  · rintro ⟨⟨i, v⟩, h1, h2⟩
    rw [List.mem_mapIdx] at h1
    obtain ⟨j, hj, h3⟩ := h1
    cases h3
    cases hf : isFl L[i] with
    | true => simp [hf] at h2
    | false =>
      simp [hf] at h2
      subst h2
      exact ⟨L[i], by simp [hj], hf, rfl⟩
  · rintro ⟨v, h1, h2, h3⟩
    obtain ⟨hl, h4⟩ := List.getElem?_eq_some_iff.mp h1
    refine ⟨(q.1, v), List.mem_mapIdx.mpr ⟨q.1, hl, by rw [h4]⟩, ?_⟩
    simp [h2, ← h3]
def LR (b aS N0 : Nat) (lg : Bool) (n : Nat) (L : List Value) (ls : Array Slot) : Prop := lv_has ls n (lvAL b aS N0 L) ∧ L.length = n ∧ (lg = false → ∀ v ∈ L, isLg v = false)
theorem isLg_cat {v : Value} : isLg v = true ↔ v.category = 2 := by cases v <;> simp [isLg, Value.category]
theorem lv_mono {ls : Array Slot} {n : Nat} {l l' : List (Nat × Value)} (h : lv_has ls n l) (hs : ∀ q ∈ l', q ∈ l) : lv_has ls n l' := ⟨h.1, h.2.1, fun q hq => h.2.2 q (hs q hq)⟩
theorem LR.get {b aS N0 n i : Nat} {lg : Bool} {L : List Value} {ls : Array Slot} {v : Value} (h : LR b aS N0 lg n L ls) (hv : L[i]? = some v) (hf : isFl v = false) : ls[i]? = some (.val (encV b aS N0 v)) :=
  h.1.2.2 (i, encV b aS N0 v) (lvAL_mem.mpr ⟨v, hv, hf, rfl⟩)
/-- behind a store of one word -/
theorem LR.put {b aS N0 n i : Nat} {lg : Bool} {L L' : List Value} {ls : Array Slot} {v w : Value} (h : LR b aS N0 lg n L ls) (hv : isLg v = false) (hw : w = encV b aS N0 v) (hs : mst lg L i v = some L') :
    i < n ∧ ∀ ls' : Array Slot, lv_has ls' n ((i, w) :: (lvAL b aS N0 L).filter (fun q => !(q.1 == i) && !(q.1 + 1 == i && q.2.category == 2))) → LR b aS N0 lg n L' ls' := by
  unfold mst at hs
  cases hc : (Nat.blt i L.length && !(lg && isLg (L.getD (i - 1) U_))) with
  | false => rw [hc] at hs; cases hs
  | true =>
    rw [hc] at hs
    cases hs
    simp only [Bool.and_eq_true, Nat.blt_eq, Bool.not_eq_true', Bool.and_eq_false_iff] at hc
    obtain ⟨hl, hg⟩ := hc
    refine ⟨by rw [← h.2.1]; exact hl, fun ls' h9 => ⟨lv_mono h9 fun q hq => ?_, by simp [h.2.1], fun hlg x hx => ?_⟩⟩
    · obtain ⟨x, h1, h2, h3⟩ := lvAL_mem.mp hq
      rw [List.getElem?_set] at h1
      by_cases hi : i = q.1
      · rw [if_pos hi, if_pos hl] at h1
        cases h1
        refine List.mem_cons.mpr (Or.inl ?_)
        rw [hw, ← h3, hi]
      · rw [if_neg hi] at h1
        refine List.mem_cons_of_mem _ (List.mem_filter.mpr ⟨lvAL_mem.mpr ⟨x, h1, h2, h3⟩, ?_⟩)
        have hn : (q.1 == i) = false := by simp; exact fun e => hi e.symm
        rw [hn]
        simp only [Bool.not_false, Bool.true_and, Bool.not_eq_true', Bool.and_eq_false_iff, beq_eq_false_iff_ne]
        by_cases h5 : q.1 + 1 = i
        · right
          rw [h3, encV_cat]
          intro h6
          have h7 : isLg x = true := isLg_cat.mpr h6
          rcases hg with hg | hg
          · have := h.2.2 hg x (List.mem_of_getElem? h1)
            rw [h7] at this
            cases this
          · rw [show i - 1 = q.1 by omega, List.getD_eq_getElem?_getD, h1] at hg
            simp [h7] at hg
        · exact Or.inl h5
    · rcases List.mem_or_eq_of_mem_set hx with h1 | h1
      · exact h.2.2 hlg x h1
      · rw [h1]; exact hv
/-- behind a store of two words -/
theorem LR.putl {b aS N0 n i : Nat} {lg : Bool} {L L' : List Value} {ls : Array Slot} {x : Int64} (h : LR b aS N0 lg n L ls) (hs : mstl lg L i (.long x) = some L') :
    i + 1 < n ∧ ∀ ls' : Array Slot, lv_has ls' n ((i, Value.long x) :: (lvAL b aS N0 L).filter (fun q => !(q.1 == i) && (!(q.1 == i + 1) && !(q.1 + 1 == i && q.2.category == 2)))) → LR b aS N0 lg n L' ls' := by
  unfold mstl at hs
  cases hc : (Nat.blt (i + 1) L.length && lg && !isLg (L.getD (i - 1) U_)) with
  | false => rw [hc] at hs; cases hs
  | true =>
    rw [hc] at hs
    cases hs
    simp only [Bool.and_eq_true, Nat.blt_eq, Bool.not_eq_true'] at hc
    obtain ⟨⟨hl, hg⟩, h0⟩ := hc
    refine ⟨by rw [← h.2.1]; exact hl, fun ls' h9 => ⟨lv_mono h9 fun q hq => ?_, by simp [h.2.1], fun hlg => by rw [hg] at hlg; cases hlg⟩⟩
    obtain ⟨y, h1, h2, h3⟩ := lvAL_mem.mp hq
    rw [List.getElem?_set, List.length_set] at h1
    by_cases hj : i + 1 = q.1
    · rw [if_pos hj, if_pos hl] at h1
      cases h1
      cases h2
    · rw [if_neg hj, List.getElem?_set] at h1
      by_cases hi : i = q.1
      · rw [if_pos hi, if_pos (by omega)] at h1
        cases h1
        refine List.mem_cons.mpr (Or.inl ?_)
        obtain ⟨q1, q2⟩ := q
        dsimp only at hi h3
        rw [h3, hi]
        rfl
      · rw [if_neg hi] at h1
        refine List.mem_cons_of_mem _ (List.mem_filter.mpr ⟨lvAL_mem.mpr ⟨y, h1, h2, h3⟩, ?_⟩)
        have hn : (q.1 == i) = false := by simp; exact fun e => hi e.symm
        have hn2 : (q.1 == i + 1) = false := by simp; exact fun e => hj e.symm
        rw [hn, hn2]
        simp only [Bool.not_false, Bool.true_and, Bool.not_eq_true', Bool.and_eq_false_iff, beq_eq_false_iff_ne]
        by_cases h5 : q.1 + 1 = i
        · right
          rw [h3, encV_cat]
          intro h6
          have h7 : isLg y = true := isLg_cat.mpr h6
          rw [show i - 1 = q.1 by omega, List.getD_eq_getElem?_getD, h1] at h0
          simp [h7] at h0
        · exact Or.inl h5
/-- the locals with which a method begins -/
theorem flL_enc {b aS N0 : Nat} (vs : List Value) (i : Nat) (hfl : vs.all (fun v => !isFl v) = true) : ∀ (j : Nat) (v : Value), (flL vs)[j]? = some v → isFl v = false → (i + j, encV b aS N0 v) ∈ lv_args i (vs.map (encV b aS N0)) := by
  induction vs generalizing i with
  | nil => intro j v hj; simp [flL] at hj
  | cons w vs ih =>
    intro j v hj hv
    rw [List.all_cons, Bool.and_eq_true] at hfl
    simp only [List.map_cons, lv_args, encV_cat]
    cases hw : isLg w with
    | true =>
      have e : flL (w :: vs) = w :: U_ :: flL vs := by simp [flL, hw]
      rw [e] at hj
      rw [if_pos (isLg_cat.mp hw)]
      match j, hj with
      | 0, hj => simp at hj; subst hj; simp
      | 1, hj => simp at hj; subst hj; cases hv
      | j + 2, hj =>
        have := ih (i + 2) hfl.2 j v (by simpa using hj) hv
        rw [show i + (j + 2) = i + 2 + j by omega]
        exact List.mem_cons_of_mem _ this
    | false =>
      have e : flL (w :: vs) = w :: flL vs := by simp [flL, hw]
      rw [e] at hj
      rw [if_neg (fun q => by rw [isLg_cat.mpr q] at hw; cases hw)]
      match j, hj with
      | 0, hj => simp at hj; subst hj; simp
      | j + 1, hj =>
        have := ih (i + 1) hfl.2 j v (by simpa using hj) hv
        rw [show i + (j + 1) = i + 1 + j by omega]
        exact List.mem_cons_of_mem _ this
theorem lg_sl_len (b aS N0 : Nat) (vs : List Value) : (lg_sl (vs.map (encV b aS N0))).length = (flL vs).length := by
  induction vs with
  | nil => rfl
  | cons w vs ih =>
    simp only [lg_sl, flL, List.map_cons, List.flatMap_cons, List.length_append, encV_cat] at ih ⊢
    rw [ih]
    cases hw : isLg w with
    | true => rw [if_pos (isLg_cat.mp hw)]; rfl
    | false => rw [if_neg (fun q => by rw [isLg_cat.mpr q] at hw; cases hw)]; rfl
theorem LR.entry {b aS N0 n : Nat} {lg : Bool} {vs L : List Value} (hL : entL n lg vs = some L) :
    LR b aS N0 lg n L ((lg_sl (vs.map (encV b aS N0)) ++ List.replicate (n - (lg_sl (vs.map (encV b aS N0))).length) Slot.unset).toArray) := by
  unfold entL at hL
  cases hc : (Nat.ble (flL vs).length n && (lg || vs.all (fun v => !isLg v)) && vs.all (fun v => !isFl v)) with
  | false => rw [hc] at hL; cases hL
  | true =>
    rw [hc] at hL
    cases hL
    simp only [Bool.and_eq_true, Nat.ble_eq] at hc
    obtain ⟨⟨h1, h2⟩, h3⟩ := hc
    have he := lv_entry (vs.map (encV b aS N0)) (n := n) (by rw [lg_sl_len]; exact h1)
    refine ⟨lv_mono he fun q hq => ?_, by simp; omega, fun hlg v hv => ?_⟩
    · obtain ⟨v, g1, g2, g3⟩ := lvAL_mem.mp hq
      by_cases hl : q.1 < (flL vs).length
      · rw [List.getElem?_append_left hl] at g1
        have := flL_enc (b := b) (aS := aS) (N0 := N0) vs 0 h3 q.1 v g1 g2
        rw [Nat.zero_add, ← g3] at this
        exact this
      · rw [List.getElem?_append_right (by omega)] at g1
        have := List.mem_of_getElem? g1
        rw [List.mem_replicate] at this
        rw [this.2] at g2
        cases g2
    · rcases List.mem_append.mp hv with hv | hv
      · rw [hlg, Bool.false_or] at h2
        rw [flL, List.mem_flatMap] at hv
        obtain ⟨w, hw, hw2⟩ := hv
        have h4 := List.all_eq_true.mp h2 w hw
        simp only [Bool.not_eq_true'] at h4
        rw [h4] at hw2
        simp at hw2
        rw [hw2]
        exact h4
      · rw [List.mem_replicate] at hv
        rw [hv.2]
        rfl
