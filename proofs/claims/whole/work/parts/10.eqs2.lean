section Eqs2
variable {X : mX} {d y pc pc' t a : Nat} {r : pMT} {i : Instr} {L L' st st' rest : List Value} {h h' : mH}
theorem R_new {j : Nat} {f : pNT} (hy : pMth y = some r) (hp : r.1 pc = some (.new j, a)) (hf : mRow pM a (fun q => Nat.beq q.1 r.2.2.2.2.2.1 && Nat.beq q.2.1 j) = some f) : Rn X d y pc L st h = Rn X d y (pc + 3) L (.ref h.length :: st) (h ++ [.inr (f.2.2.1, pD f.2.2.1)]) := by
  refine R_go (q := (pc + 3, L, .ref h.length :: st, h ++ [.inr (f.2.2.1, pD f.2.2.1)])) hy hp ?_
  show (mRow pM a (fun q => Nat.beq q.1 r.2.2.2.2.2.1 && Nat.beq q.2.1 j)).bind _ = _
  rw [hf, Option.bind_some]
theorem R_newi {n : Int32} {k : Nat} (hy : pMth y = some r) (hp : r.1 pc = some (.newarray .int, a)) (hk : n.toNatClampNeg = k) (hg : (!decide (n < 0) && Nat.ble n.toNatClampNeg 100000) = true) : Rn X d y pc L (.int n :: st) h = Rn X d y (pc + 2) L (.ref h.length :: st) (h ++ [.inl (0, k, .inl (fun _ => 0))]) := by
  subst hk
  refine R_go (q := (pc + 2, L, .ref h.length :: st, h ++ [.inl (0, n.toNatClampNeg, .inl (fun _ => 0))])) hy hp ?_
  show (bif (!decide (n < 0) && Nat.ble n.toNatClampNeg 100000) then _ else _) = _
  rw [hg]; rfl
theorem R_newb {n : Int32} {k : Nat} (hy : pMth y = some r) (hp : r.1 pc = some (.newarray .byte, a)) (hk : n.toNatClampNeg = k) (hg : (!decide (n < 0) && Nat.ble n.toNatClampNeg 100000) = true) : Rn X d y pc L (.int n :: st) h = Rn X d y (pc + 2) L (.ref h.length :: st) (h ++ [.inl (1, k, .inl (fun _ => 0))]) := by
  subst hk
  refine R_go (q := (pc + 2, L, .ref h.length :: st, h ++ [.inl (1, n.toNatClampNeg, .inl (fun _ => 0))])) hy hp ?_
  show (bif (!decide (n < 0) && Nat.ble n.toNatClampNeg 100000) then _ else _) = _
  rw [hg]; rfl
theorem R_newq {n : Int32} {j k : Nat} (hy : pMth y = some r) (hp : r.1 pc = some (.anewarray j, a)) (hk : n.toNatClampNeg = k) (hg : (Nat.beq r.2.2.2.2.2.1 3 && Nat.beq j 11 && !decide (n < 0) && Nat.ble n.toNatClampNeg 100000) = true) : Rn X d y pc L (.int n :: st) h = Rn X d y (pc + 3) L (.ref h.length :: st) (h ++ [.inl (2, k, .inr (.inr (.inr (.inr (fun _ => none)))))]) := by
  subst hk
  refine R_go (q := (pc + 3, L, .ref h.length :: st, h ++ [.inl (2, n.toNatClampNeg, .inr (.inr (.inr (.inr (fun _ => none)))))])) hy hp ?_
  show (bif (Nat.beq r.2.2.2.2.2.1 3 && Nat.beq j 11 && !decide (n < 0) && Nat.ble n.toNatClampNeg 100000) then _ else _) = _
  rw [hg]; rfl
theorem R_mna {n m : Int32} {j k l : Nat} (hy : pMth y = some r) (hp : r.1 pc = some (.multianewarray j 2, a)) (hk : n.toNatClampNeg = k) (hl : m.toNatClampNeg = l) (hg : (((Nat.beq r.2.2.2.2.2.1 2 && Nat.beq j 18) || (Nat.beq r.2.2.2.2.2.1 10 && Nat.beq j 39)) && Nat.beq 2 2 && !decide (n < 0) && !decide (m < 0) && Nat.ble n.toNatClampNeg 10000 && Nat.ble m.toNatClampNeg 10000) = true) :
    Rn X d y pc L (.int m :: .int n :: st) h = Rn X d y (pc + 4) L (.ref h.length :: st) (hMN h k l) := by
  subst hk; subst hl
  refine R_go (q := (pc + 4, L, .ref h.length :: st, hMN h n.toNatClampNeg m.toNatClampNeg)) hy hp ?_
  show (bif (((Nat.beq r.2.2.2.2.2.1 2 && Nat.beq j 18) || (Nat.beq r.2.2.2.2.2.1 10 && Nat.beq j 39)) && Nat.beq 2 2 && !decide (n < 0) && !decide (m < 0) && Nat.ble n.toNatClampNeg 10000 && Nat.ble m.toNatClampNeg 10000) then _ else _) = _
  rw [hg]; rfl
end Eqs2
