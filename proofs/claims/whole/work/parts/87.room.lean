/-! the law's whole run, and its room -/
section Room
variable {X : mX} {d : Nat} {D : Nat → Nat × Nat} {I : Nat → Nat → Int32} {P : Nat → Nat → Option Nat} {N : Nat} {ra rk : Nat → Nat}
theorem esz_kz {a : Nat} {r : Nat → Int32} {p : Nat → Option Nat} {q : Nat × Nat} : esz (cEk a r p q) = kz q := by
  obtain ⟨k, n⟩ := q
  match k with
  | 0 => rfl
  | 1 => rfl
  | 2 => rfl
  | 3 => rfl
  | k + 4 =>
    show ((List.range (nfl n)).map _).length = nfl n
    rw [List.length_map, List.length_range]
theorem tot_s : tot (Mh D I P (N + 1)) = tot (Mh D I P N) + kz (bKk D (80 + N)) := by
  unfold tot Mh
  rw [show 80 + (N + 1) = 80 + N + 1 from rfl, List.range_succ]
  simp only [List.map_append, List.sum_append, List.map_cons, List.map_nil, List.sum_cons, List.sum_nil, Nat.add_zero]
  congr 1
  exact esz_kz
theorem tot_z : tot (Mh D I P 0) = tot (Mh D0 I0 P0 0) := by
  unfold tot Mh
  rw [List.map_map, List.map_map]
  refine congrArg List.sum (List.map_congr_left fun a ha => ?_)
  have h80 : a < 80 + 0 := List.mem_range.mp ha
  show esz (cE D I P a) = esz (cE D0 I0 P0 a)
  unfold cE
  rw [esz_kz, esz_kz]
  unfold bKk
  rw [show Nat.blt a 80 = true from Nat.blt_eq.mpr h80]
  rfl
theorem tot_0 : tot (Mh D0 I0 P0 0) ≤ 10000 := by decide +kernel
theorem tot_n : ∀ N, KzR D N → tot (Mh D I P N) ≤ 10000 + 100 * N
  | 0, _ => by rw [tot_z]; exact tot_0
  | N + 1, h => by
    have ih := tot_n N (fun a h1 h2 => h a h1 (by omega))
    have h1 := h (80 + N) (by omega) (by omega)
    rw [tot_s, bKk_dyn (by omega)]
    omega
theorem law_all (hX : X.1 ≤ 2560) : ∃ hf, Rn X (d + 40 + 1) 287 0 [.retAddr 0, U_, U_, U_] [] [] = some ([.int 1], hf) ∧ hf.length ≤ 600000 ∧ tot hf ≤ 7302249 := by
  obtain ⟨D', I', P', N', e, hz, h1, h2⟩ := law_loop (X := X) (d := d) (by omega) (X.1 - 0) 0 D0 I0 P0 0 (fun _ => 0) (fun _ => 0) (Nat.le_refl _) (Nat.zero_le _) st_LI
  refine ⟨Mh D' I' P' N', ?_, ?_, ?_⟩
  · rw [st_0, st_M]; exact e
  · rw [Mh_len]; omega
  · have := tot_n (I := I') (P := P') N' hz
    omega
end Room
