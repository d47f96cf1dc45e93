/-! the start -/
def R10 : mH := cEk 0 zI (fun _ => none) (4, 10) :: (R3 1 ++ R3 16 ++ R6c 31 ++ R4 36 ++ [.inl (1, 200, .inl (fun _ => 0))] ++ (.inl (3, 3, .inr (.inr (.inr (.inr (fun i => if i < 3 then some (50 + 1 + i) else none))))) :: Rw 4 :: Rw 4 :: [Rw 4]) ++ R2 54)
def R11 (q : Nat) : mH := .inr (11, (List.range (nfl 11)).map fun k => cvl (pY 11 k) 0 (match k with | 0 => some (q + 1) | 1 => some (q + 2) | 2 => some (q + 3) | 4 => some (q + 4) | 5 => some (q + 5) | 10 => some (q + 6) | 12 => some (q + 7) | 20 => some (q + 8) | 21 => some (q + 9) | 22 => some (q + 10) | 23 => some (q + 11) | 24 => some (q + 12) | 25 => some (q + 13) | _ => some (q + 14))) :: .inl (0, 320, .inl r66I) :: Rw 320 :: Rw 320 :: Rw 200 :: Rw 4 :: Rw 12 :: Rw 200 :: .inl (0, 4, .inl m4I) :: Rw 4 :: Rw 160 :: Rw 4 :: Rw 4 :: Rw 4 :: [Rw 30]
def I0 : Nat → Nat → Int32 := fun a => if a = 1 then r3I else if a = 16 then r3I else if a = 55 then m4I else if a = 62 then m4I else if a = 66 then r66I else if a = 73 then m4I else fun _ => 0
def P0 : Nat → Nat → Option Nat := fun a k => if a = 1 then some 5 else if a = 16 then some 20 else if a = 36 then (if k = 0 then some 37 else some 41) else none
def D0 : Nat → Nat × Nat := fun _ => (0, 0)
theorem fs0 {t : mH} {fs : List Value} {v : Value} {k ci : Nat} {cis : List Nat} (hc : cis.contains ci = true) (hk : Nat.blt k fs.length = true) (hv : okV (pY ci k) v = true) : hFS ((Sum.inr (ci, fs) : mE) :: t) 0 k cis v = some ((Sum.inr (ci, fs.set k v) : mE) :: t) := fsG (hh := []) hc hk hv
theorem fr0 {t : mH} {fs : List Value} {x k ci : Nat} {cis : List Nat} (hc : cis.contains ci = true) (hv : fs[k]? = some (.ref x)) : hFR ((Sum.inr (ci, fs) : mE) :: t) 0 k cis = some x := frG (hh := []) hc hv
theorem fr0a {t L : mH} {fs : List Value} {x k ci : Nat} {cis : List Nat} (hc : cis.contains ci = true) (hv : fs[k]? = some (.ref x)) : hFR (((Sum.inr (ci, fs) : mE) :: t) ++ L) 0 k cis = some x := fr0 (t := t ++ L) hc hv
theorem mn0 (t : mH) (x : mE) (n k : Nat) : hMN (x :: t) n k = x :: (t ++ (.inl (3, n, .inr (.inr (.inr (.inr (fun i => if i < n then some ((x :: t).length + 1 + i) else none))))) :: List.replicate n (.inl (0, k, .inl (fun _ => 0))))) := rfl
section StartB
variable {X : mX} {d : Nat} {hh : mH}
theorem i_164 : Rn X d 164 0 [.ref hh.length] [] (hh ++ [Sum.inr (11, pD 11)]) = some ([], hh ++ R11 hh.length) := by
  rw [B164_0]
  rw [apG hh, lnG hh, fsG rfl rfl rfl, Option.bind_some, apG hh, lnG hh, fsG rfl rfl rfl, Option.bind_some, apG hh, lnG hh, fsG rfl rfl rfl, Option.bind_some, apG hh, lnG hh, fsG rfl rfl rfl, Option.bind_some, apG hh, lnG hh, fsG rfl rfl rfl, Option.bind_some, apG hh, lnG hh, fsG rfl rfl rfl, Option.bind_some, apG hh, lnG hh, fsG rfl rfl rfl, Option.bind_some]
  rw [asG rfl, Option.bind_some, asG rfl, Option.bind_some, asG rfl, Option.bind_some, asG rfl, Option.bind_some, apG hh, lnG hh, fsG rfl rfl rfl, Option.bind_some]
  rw [apG hh, lnG hh, fsG rfl rfl rfl, Option.bind_some, apG hh, lnG hh, fsG rfl rfl rfl, Option.bind_some, apG hh, lnG hh, fsG rfl rfl rfl, Option.bind_some, apG hh, lnG hh, fsG rfl rfl rfl, Option.bind_some, apG hh, lnG hh, fsG rfl rfl rfl, Option.bind_some, apG hh, lnG hh, fsG rfl rfl rfl, Option.bind_some]
  rw [frG (x := hh.length + 1) rfl rfl, Option.bind_some]
  simp only [List.nil_append, List.cons_append]
  rw [as1 rfl, Option.bind_some, frG (x := hh.length + 1) rfl rfl, Option.bind_some, as1 rfl, Option.bind_some]
  rfl
theorem i_107 : Rn X (d + 2) 107 0 [.ref 0] [] [Sum.inr (10, pD 10)] = some ([], R10) := by
  rw [B107_0, i_27, Option.bind_some]
  dsimp only
  rw [List.nil_append, B107_12, List.cons_append, fs0 rfl rfl rfl, Option.bind_some, i_27, Option.bind_some]
  dsimp only
  rw [List.nil_append, B107_23, List.cons_append, fs0 rfl rfl rfl, Option.bind_some, fr0a (x := 1) rfl rfl, Option.bind_some, i_77, Option.bind_some]
  dsimp only
  rw [List.nil_append, B107_38, List.cons_append, fs0 rfl rfl rfl, Option.bind_some, i_49, Option.bind_some]
  dsimp only
  rw [List.nil_append, B107_49, List.cons_append, fs0 rfl rfl rfl, Option.bind_some, List.cons_append, fs0 rfl rfl rfl, Option.bind_some, mn0, fs0 rfl rfl rfl, Option.bind_some, i_6, Option.bind_some]
  dsimp only
  rw [List.nil_append, B107_79, List.cons_append, fs0 rfl rfl rfl, Option.bind_some]
  rfl
theorem st_0 : Rn X (d + 40 + 1) 287 0 [.retAddr 0, U_, U_, U_] [] [] = Rn X (d + 40 + 1) 287 18 [.retAddr 0, .ref 0, .ref 65, .int 0] [] (R10 ++ R11 65) := by
  have e := i_107 (X := X) (d := d + 38)
  rw [B287_0]
  show ((Rn X (d + 40) 107 0 [.ref 0] [] [Sum.inr (10, pD 10)]).bind _) = _
  rw [show d + 40 = d + 38 + 2 from rfl, e, Option.bind_some]
  dsimp only
  rw [List.nil_append, B287_7, i_164, Option.bind_some]
  dsimp only
  rw [List.nil_append, B287_15]
  rfl
theorem st_M : R10 ++ R11 65 = Mh D0 I0 P0 0 := by rfl
end StartB
section StartL
variable {ra rk : Nat → Nat}
theorem z_cl : (0 : Int32).toNatClampNeg = 0 := rfl
theorem r66_o {k : Nat} (h5 : k ≠ 5) (h6 : k ≠ 6) : r66I k = 0 := by
  have e5 : (5 : Int32).toNatClampNeg = 5 := rfl
  have e6 : (6 : Int32).toNatClampNeg = 6 := rfl
  unfold r66I
  rw [e5, e6, upd_o h6, upd_o h5]
theorem I0_o {c : Nat} (h : c ≠ 1 ∧ c ≠ 16 ∧ c ≠ 55 ∧ c ≠ 62 ∧ c ≠ 66 ∧ c ≠ 73) : I0 c = fun _ => 0 := by
  unfold I0
  rw [if_neg h.1, if_neg h.2.1, if_neg h.2.2.1, if_neg h.2.2.2.1, if_neg h.2.2.2.2.1, if_neg h.2.2.2.2.2]
theorem i66 : I0 66 = r66I := rfl
theorem st_LI : LI D0 I0 P0 0 ra rk := by
  have c0 : ctA r66I = 0 := rfl
  have c1 : ctR r66I = 0 := rfl
  have c2 : ctL r66I = 0 := rfl
  have c3 : ctE r66I = 0 := rfl
  have z : ∀ c, (c ≠ 1 ∧ c ≠ 16 ∧ c ≠ 55 ∧ c ≠ 62 ∧ c ≠ 66 ∧ c ≠ 73) → ∀ k, I0 c k = 0 := fun c hc k => by rw [I0_o hc]
  refine ⟨⟨⟨⟨⟨rfl, rfl, rfl, rfl, rfl, rfl⟩, fun i hi => ?_, fun k hk => ?_⟩, fun k hk => ?_⟩, ⟨⟨rfl, rfl, rfl, rfl, rfl, rfl, rfl⟩, fun k hk => ?_, fun k hk => ?_, fun i hi => ?_, fun i j hi hj => ?_, 5, rfl, ⟨Or.inl rfl, by decide, rfl, fun j h1 h2 => ?_, fun j h1 h2 => ?_⟩, rfl, fun k hk => ?_⟩, rfl⟩, Or.inl ⟨rfl, rfl⟩, ⟨0, rfl, rfl, by decide, fun j hj => absurd hj (by omega)⟩, ⟨0, rfl, rfl, by decide, fun w i _ hi => absurd hi (by omega)⟩, ⟨fun r hr => ?_, fun k hk => ?_, rfl, rfl, fun j hj => ?_⟩, fun a h1 h2 => absurd h2 (by omega)⟩
  · rw [i66, c0] at hi; omega
  · rw [i66, c2] at hk; omega
  · rw [i66, c1] at hk; omega
  · rw [i66, c2] at hk; omega
  · rw [i66, c3] at hk; omega
  · rw [i66, c0] at hi; omega
  · rw [i66, c0] at hi; omega
  · have : j = 1 ∨ j = 2 ∨ j = 3 ∨ j = 4 := by omega
    rcases this with rfl | rfl | rfl | rfl <;> rfl
  · have : j = 5 ∨ j = 6 ∨ j = 7 := by omega
    rcases this with rfl | rfl | rfl <;> rfl
  · rw [i66, c1] at hk; omega
  · have h4 : r = 0 ∨ r = 1 ∨ r = 2 ∨ r = 3 := by omega
    refine ⟨rfl, rfl, ?_, rfl, fun j _ => by rw [z _ (by omega), z _ (by decide)]⟩
    rcases h4 with rfl | rfl | rfl | rfl <;> rfl
  · have h4 : k = 0 ∨ k = 1 ∨ k = 2 ∨ k = 3 := by omega
    refine Or.inl ⟨rfl, ?_⟩
    rcases h4 with rfl | rfl | rfl | rfl <;> rfl
  · exact absurd hj (by show ¬ j < 0; omega)
end StartL
