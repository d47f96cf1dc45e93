/-! the world at the law's entry -/
section World
variable {s : State} {args : Array Value} {L b : Nat} {xs : Nat → Int32}
theorem wi0 : Jvm.Cond.instantiable "NotYetSaid$Biscuit" 6 ∈ lw_tbl := lwIs_mem (q := (422, _)) (by decide +kernel)
theorem wi1 : Jvm.Cond.instantiable "NotYetSaid$Game" 6 ∈ lw_tbl := lwIs_mem (q := (396, _)) (by decide +kernel)
theorem wi2 : Jvm.Cond.instantiable "NotYetSaid$Host" 8 ∈ lw_tbl := lwIs_mem (q := (264, _)) (by decide +kernel)
theorem wi3 : Jvm.Cond.instantiable "NotYetSaid$Ride" 14 ∈ lw_tbl := lwIs_mem (q := (102, _)) (by decide +kernel)
theorem wi4 : Jvm.Cond.instantiable "NotYetSaid$RuleReader" 8 ∈ lw_tbl := lwIs_mem (q := (228, _)) (by decide +kernel)
theorem wi5 : Jvm.Cond.instantiable "NotYetSaid$Rules" 9 ∈ lw_tbl := lwIs_mem (q := (110, _)) (by decide +kernel)
theorem wi6 : Jvm.Cond.instantiable "NotYetSaid$Search" 6 ∈ lw_tbl := lwIs_mem (q := (203, _)) (by decide +kernel)
theorem wi7 : Jvm.Cond.instantiable "NotYetSaid$Song" 6 ∈ lw_tbl := lwIs_mem (q := (409, _)) (by decide +kernel)
theorem wi8 : Jvm.Cond.instantiable "NotYetSaid$Soon" 6 ∈ lw_tbl := lwIs_mem (q := (346, _)) (by decide +kernel)
theorem wi9 : Jvm.Cond.instantiable "NotYetSaid$Stop" 6 ∈ lw_tbl := lwIs_mem (q := (435, _)) (by decide +kernel)
theorem wi10 : Jvm.Cond.instantiable "NotYetSaid" 10 ∈ lw_tbl := lwIs_mem (q := (94, _)) (by decide +kernel)
theorem wi11 : Jvm.Cond.instantiable "NotYetSaidModel" 32 ∈ lw_tbl := lwIs_mem (q := (1187, _)) (by decide +kernel)
theorem wa0 : Jvm.Cond.arrayClass .int ∈ lw_tbl := lwIs_mem (q := (146, _)) (by decide +kernel)
theorem wa1 : Jvm.Cond.arrayClass .byte ∈ lw_tbl := lwIs_mem (q := (260, _)) (by decide +kernel)
theorem wa2 : Jvm.Cond.arrayOver (.object "NotYetSaid$Answer") ∈ lw_tbl := lwIs_mem (q := (108, _)) (by decide +kernel)
theorem wa3 : Jvm.Cond.arrayOver (.array .int) ∈ lw_tbl := lwIs_mem (q := (262, _)) (by decide +kernel)
theorem ws0 : Jvm.Cond.stringRef "NotYetSaid$RuleReader" 114 pTX ∈ lw_tbl := lwIs_mem (q := (634, _)) (by decide +kernel)
theorem wz0 : Jvm.Cond.laysStatic "java/lang/String" "COMPACT_STRINGS" "Z" ∈ lw_tbl := lwIs_mem (q := (644, _)) (by decide +kernel)
theorem wz1 : Jvm.Cond.laysStatic "jdk/internal/util/Preconditions" "SIOOBE_FORMATTER" "Ljava/util/function/BiFunction;" ∈ lw_tbl := lwIs_mem (q := (660, _)) (by decide +kernel)
theorem wn0 : Jvm.Cond.initialized "java/lang/String" ∈ lw_tbl := lwIs_mem (q := (86, _)) (by decide +kernel)
theorem wn1 : Jvm.Cond.initialized "jdk/internal/util/Preconditions" ∈ lw_tbl := lwIs_mem (q := (88, _)) (by decide +kernel)
theorem wcSoon : Jvm.Cond.castable "NotYetSaid$Soon" "NotYetSaid$Answer" ∈ lw_tbl := lwIs_mem (q := (1775, _)) (by decide +kernel)
theorem wcGame : Jvm.Cond.castable "NotYetSaid$Game" "NotYetSaid$Answer" ∈ lw_tbl := lwIs_mem (q := (1776, _)) (by decide +kernel)
theorem wcSong : Jvm.Cond.castable "NotYetSaid$Song" "NotYetSaid$Answer" ∈ lw_tbl := lwIs_mem (q := (1777, _)) (by decide +kernel)
theorem wcBiscuit : Jvm.Cond.castable "NotYetSaid$Biscuit" "NotYetSaid$Answer" ∈ lw_tbl := lwIs_mem (q := (1778, _)) (by decide +kernel)
theorem wcStop : Jvm.Cond.castable "NotYetSaid$Stop" "NotYetSaid$Answer" ∈ lw_tbl := lwIs_mem (q := (1779, _)) (by decide +kernel)
theorem arr_o (h : (Jvm.Cond.arrayOver (.array .int)).before args s = true) : ∃ (comp c : ClassId) (k : Class), s.vm.classes[c]? = some k ∧ k.kind = .array comp (.array .int) ∧ s.vm.findClass ("[" ++ (FieldType.array .int).toString) = some c := by
  simp only [Cond.before, Cond.holds, Cond.value, beq_iff_eq] at h
  cases hc : s.vm.findClass (FieldType.array .int).toString with
  | none => rw [hc] at h; cases h
  | some comp =>
    rw [hc] at h
    simp only [Option.bind_some, Option.bind_eq_some_iff, Option.map_eq_some_iff] at h
    obtain ⟨c, hi, k, hk, hb⟩ := h
    obtain ⟨hlt, hp, -⟩ := Array.findIdx?_eq_some_iff_getElem.mp hi
    have hkk : s.vm.classes[c] = k := (Array.getElem?_eq_some_iff.mp hk).2
    rw [hkk] at hp
    cases hkind : k.kind with
    | array component ty =>
      rw [hkind] at hb hp
      simp at hb hp
      exact ⟨comp, c, k, hk, by rw [hkind, hp, hb.1], hb.2⟩
    | _ => rw [hkind] at hb; simp at hb
theorem w_cls (hts : ∀ w ∈ lw_tbl, w.before args s = true) : ∃ D : va_G, ∀ (c : Nat) (q : vw_C), pcl[c]? = some q → u_Kn s q.1 q.2.1 q.2.2 (D.1 c) (D.2 c) := by
  have hI : ∀ (c : Nat) (q : vw_C), pcl[c]? = some q → ∃ n, Jvm.Cond.instantiable q.1 n ∈ lw_tbl := fun c q h => match c, h with
    | 0, h => by cases h; exact ⟨_, wi0⟩
    | 1, h => by cases h; exact ⟨_, wi1⟩
    | 2, h => by cases h; exact ⟨_, wi2⟩
    | 3, h => by cases h; exact ⟨_, wi3⟩
    | 4, h => by cases h; exact ⟨_, wi4⟩
    | 5, h => by cases h; exact ⟨_, wi5⟩
    | 6, h => by cases h; exact ⟨_, wi6⟩
    | 7, h => by cases h; exact ⟨_, wi7⟩
    | 8, h => by cases h; exact ⟨_, wi8⟩
    | 9, h => by cases h; exact ⟨_, wi9⟩
    | 10, h => by cases h; exact ⟨_, wi10⟩
    | 11, h => by cases h; exact ⟨_, wi11⟩
    | k + 12, h => by simp [pcl] at h
  have hK : ∀ c : Nat, ∃ g : ClassId × (Nat → Nat), ∀ q, pcl[c]? = some q → u_Kn s q.1 q.2.1 q.2.2 g.1 g.2 := by
    intro c
    cases hq : pcl[c]? with
    | none => exact ⟨(0, fun _ => 0), fun q h => by cases h⟩
    | some q =>
      obtain ⟨n, hn⟩ := hI c q hq
      obtain ⟨cC, iS, h⟩ := u_known (C := q.1) (T := q.2.1) (N := q.2.2) (n := n) hts (pcl_ok c q hq).1 (hts _ hn)
      exact ⟨(cC, iS), fun q' h' => by cases h'; exact h⟩
  exact ⟨(fun c => (Classical.choose (hK c)).1, fun c => (Classical.choose (hK c)).2), fun c q h => Classical.choose_spec (hK c) q h⟩
theorem w_arr (hts : ∀ w ∈ lw_tbl, w.before args s = true) : ∃ dA : Nat → ClassId, ∀ (k : Nat) (q : ClassId × FieldType), (tysL dA)[k]? = some q → ArrOfT s q.1 q.2 ∧ va_RA s q.1 q.2 := by
  obtain ⟨c0, k0, m0, e0, f0, g0⟩ := Cond.arrayClass_spec (hts _ wa0)
  obtain ⟨c1, k1, m1, e1, f1, g1⟩ := Cond.arrayClass_spec (hts _ wa1)
  obtain ⟨m2, c2, k2, e2, -, f2, g2, h2⟩ := Cond.arrayOver_spec (hts _ wa2)
  obtain ⟨m3, c3, k3, f3, g3, e3⟩ := arr_o (hts _ wa3)
  refine ⟨fun k => if k = 0 then c0 else if k = 1 then c1 else if k = 2 then c2 else c3, fun k q h => ?_⟩
  match k, h with
  | 0, h => cases h; exact ⟨fun n z => ⟨(fun k h => by cases h), k0, f0, m0, g0⟩, e0⟩
  | 1, h => cases h; exact ⟨fun n z => ⟨(fun k h => by cases h), k1, f1, m1, g1⟩, e1⟩
  | 2, h => cases h; exact ⟨fun n z => ⟨(fun k h => by cases h), k2, f2, m2, g2⟩, k2, m2, f2, g2, e2, h2⟩
  | 3, h => cases h; exact ⟨fun n z => ⟨(fun k h => by cases h), k3, f3, m3, g3⟩, e3⟩
  | k + 4, h => simp [tysL] at h
theorem w_txt (hs : ∀ c ∈ flatC (Jvm.Cond.and given_1 narrow_1), c.before args s = true) : ∃ aS aV : Nat, vk_S 1 [90] [pTB] (fun _ => aS) (fun _ => aV) (fun q => s.heap.size ≤ q) s s.heap ∧ (Term.string "NotYetSaid$RuleReader" 114).eval args s none [] s = some (.ref aS) := by
  have hel : ∀ j : Nat, j < 90 → (Jvm.Cond.eq (.elem (.field (.string "NotYetSaid$RuleReader" 114) "java/lang/String" "value" "[B") (.int (Int32.ofNat j))) (.int (([pTB].getD 0 []).getD j 0))) ∈ flatC (Jvm.Cond.and given_1 narrow_1) := by decide +kernel
  obtain ⟨adK, adV, h1, h2⟩ := vk_Sof (args := args) (s := s) (N := 1) (tm := fun _ => .string "NotYetSaid$RuleReader" 114) (len := [90]) (byt := [pTB]) (A := fun q => s.heap.size ≤ q)
    (fun i hi => by obtain rfl : i = 0 := by omega
                    decide)
    (fun i hi => hs _ (by decide +kernel))
    (fun i hi => hs _ (by decide +kernel))
    (fun i hi => hs _ (by decide +kernel))
    (fun i hi => by obtain rfl : i = 0 := by omega
                    exact hs _ (by decide +kernel))
    (fun i hi j hj => by obtain rfl : i = 0 := by omega
                         exact hs _ (hel j hj))
    (fun i j hi hj hn => absurd (show i = j by omega) hn)
    (fun a ha => Nat.not_le.mpr ha)
  refine ⟨adK 0, adV 0, ⟨fun i hi => ?_, fun i j hi hj _ => by omega⟩, h2 0 (by omega)⟩
  obtain rfl : i = 0 := by omega
  exact h1.1 0 (by omega)
theorem w_zz (hts : ∀ w ∈ lw_tbl, w.before args s = true) (hs : ∀ c ∈ flatC (Jvm.Cond.and given_1 narrow_1), c.before args s = true) : va_Z "java/lang/String" "COMPACT_STRINGS" "Z" (.int 1) (fun q => s.heap.size ≤ q) s s.heap ∧ va_Zq "jdk/internal/util/Preconditions" "SIOOBE_FORMATTER" "Ljava/util/function/BiFunction;" (fun q => s.heap.size ≤ q) s s.heap := by
  have h1 : (Jvm.Cond.eq (.static "java/lang/String" "COMPACT_STRINGS" "Z") (.int 1)).before args s = true := hs _ (by decide +kernel)
  have h2 : (Jvm.Cond.isRef (.static "jdk/internal/util/Preconditions" "SIOOBE_FORMATTER" "Ljava/util/function/BiFunction;")).before args s = true := hs _ (by decide +kernel)
  exact ⟨va_Zof (hts _ wz0) (hts _ wn0) (Cond.eq_int h1 rfl) (fun a ha => Nat.not_le.mpr ha), va_Zqof (hts _ wz1) (hts _ wn1) h2 (fun a ha => Nat.not_le.mpr ha)⟩
theorem nst_on {w : Jvm.Cond} (h : isNst w = true) : w.onTables = true := by
  cases w <;> first | rfl | cases h
theorem w_EnS (hts : ∀ w ∈ lw_tbl, w.before args s = true) {D : va_G} (hD : ∀ (c : Nat) (q : vw_C), pcl[c]? = some q → u_Kn s q.1 q.2.1 q.2.2 (D.1 c) (D.2 c)) {dA : Nat → ClassId} (hA : ∀ (k : Nat) (q : ClassId × FieldType), (tysL dA)[k]? = some q → ArrOfT s q.1 q.2 ∧ va_RA s q.1 q.2)
    {aS : Nat} (hS : (Term.string "NotYetSaid$RuleReader" 114).eval args s none [] s = some (.ref aS)) : EnS dA D aS s := by
  refine ⟨⟨hD, hA⟩, fun w hw hn => va_Nw.of (nst_on hn) (hts w hw), ⟨va_AO.of (hts _ wa2), va_Oo.of (hts _ wa3)⟩, vk_R.of (hts _ ws0) hS, fun C hC => ?_⟩
  unfold AnsCs at hC
  simp only [List.mem_cons, List.not_mem_nil, or_false] at hC
  rcases hC with rfl | rfl | rfl | rfl | rfl
  · exact va_Nw.of rfl (hts _ wcBiscuit)
  · exact va_Nw.of rfl (hts _ wcGame)
  · exact va_Nw.of rfl (hts _ wcSong)
  · exact va_Nw.of rfl (hts _ wcSoon)
  · exact va_Nw.of rfl (hts _ wcStop)
end World
