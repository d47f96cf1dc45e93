/-! what holds around the small machine: of the tables, and of the cells that aren't its own -/
def gW : List Jvm.Cond := lw_tbl.filter goodWord
theorem gW_of {w : Jvm.Cond} (h : w ∈ lw_tbl) (g : goodWord w = true) : w ∈ gW := List.mem_filter.mpr ⟨h, g⟩
theorem gW_good : ∀ w ∈ gW, ((w.onTables && w.keeps) = true ∨ ∃ ty, w = .arrayClass ty) := fun w h => good_of_word (List.mem_filter.mp h).2
theorem gW_in {ws : List Jvm.Cond} (h : ∀ w ∈ ws, w ∈ gW) : GoodIn gW ws := fun w hw => ⟨h w hw, gW_good w (h w hw)⟩
def isNst : Jvm.Cond → Bool
  | .methodLinkNest .. => true
  | .declares _ => true
  | _ => false
def tysL (dA : Nat → ClassId) : List (ClassId × FieldType) := [(dA 0, .int), (dA 1, .byte), (dA 2, .object "NotYetSaid$Answer"), (dA 3, .array .int)]
def AnsCs : List String := ["NotYetSaid$Biscuit", "NotYetSaid$Game", "NotYetSaid$Song", "NotYetSaid$Soon", "NotYetSaid$Stop"]
def va_Oo (U : State) : Prop := (Cond.arrayOver (.array .int)).before #[] U = true
theorem va_Oo.of {A : Array Value} {U : State} (h : (Cond.arrayOver (.array .int)).before A U = true) : va_Oo U := h
theorem va_Oo.use {A : Array Value} {U : State} (h : va_Oo U) : (Cond.arrayOver (.array .int)).before A U = true := h
theorem va_Oo.moved {u U : State} (hvm : u.vm.Alike U.vm) (h : va_Oo u) : va_Oo U := by
  have h1 : (Cond.arrayOver (.array .int)).before #[] (u.setVm U.vm) = true := by rw [Cond.arrayOver_setVmC hvm]; exact h
  exact h1
def EnS (dA : Nat → ClassId) (D : va_G) (aS : Nat) (U : State) : Prop :=
  va_K D pcl (tysL dA) U ∧ (∀ w ∈ lw_tbl, isNst w = true → va_Nw w U) ∧ (va_AO "NotYetSaid$Answer" U ∧ va_Oo U) ∧
  vk_R "NotYetSaid$RuleReader" 114 pTX aS U ∧ (∀ C ∈ AnsCs, va_Nw (.castable C "NotYetSaid$Answer") U)
def pTB : List Int32 := pTX.toList.map fun c => Int32.ofNat c.toNat
def EnH (X : mX) (b aS aV N0 : Nat) (U : State) (H : Heap) : Prop :=
  va_X b X.1 X.2 U H ∧ b < N0 ∧ vk_S 1 [90] [pTB] (fun _ => aS) (fun _ => aV) (fun q => N0 ≤ q) U H ∧
  va_Z "java/lang/String" "COMPACT_STRINGS" "Z" (.int 1) (fun q => N0 ≤ q) U H ∧ va_Zq "jdk/internal/util/Preconditions" "SIOOBE_FORMATTER" "Ljava/util/function/BiFunction;" (fun q => N0 ≤ q) U H
theorem EnS.warm {dA : Nat → ClassId} {D : va_G} {aS : Nat} {s U : State} (hW : s.WarmedH U.vm) (h : EnS dA D aS s) : EnS dA D aS U := by
  obtain ⟨h1, h2, ⟨h3, h4⟩, h5, h6⟩ := h
  refine ⟨va_K.moved hW.alike h1, fun w hw hn => ?_, ⟨va_AO.moved hW.alike h3, va_Oo.moved hW.alike h4⟩, vk_R.warm hW h5, fun C hC => va_Nw.warmC hW (h6 C hC)⟩
  have h9 := h2 w hw hn
  cases w with
  | methodLinkNest a i x z => exact va_Nw.warmM hW h9
  | declares x => exact va_Nw.warmD hW h9
  | _ => cases hn
theorem EnS.same {dA : Nat → ClassId} {D : va_G} {aS : Nat} {u U : State} (hv : u.vm = U.vm) (h : EnS dA D aS u) : EnS dA D aS U :=
  EnS.warm (by rw [← hv]; exact State.WarmedH.refl u) h
theorem EnH.move {X : mX} {b aS aV N0 : Nat} {s U : State} {H : Heap} {locs : List Loc} (hb : N0 ≤ s.heap.size) (hvm : s.vm.Alike U.vm) (hS : va_S (fun q => N0 ≤ q) s.heap H locs) (h : EnH X b aS aV N0 s s.heap) : EnH X b aS aV N0 U H := by
  obtain ⟨h1, h2, h3, h4, h5⟩ := h
  have hq : ∀ a : Nat, a < s.heap.size → ¬ N0 ≤ a → H[a]? = s.heap[a]? := fun a g1 g2 => hS.2.1 a g1 g2
  exact ⟨va_X.moved hvm (va_X.kept h1 (hq b (by omega) (by omega))), h2, vk_S.moved hvm (vk_S.kept h3 hq), va_Z.moved hvm (va_Z.kept h4 hq), va_Zq.moved hvm (va_Zq.kept h5 hq)⟩
def Fx (X : mX) (b aS aV N0 : Nat) (dA : Nat → ClassId) (D : va_G) (r : pMT) (p : Program) (s : State) (m : MethodId) (args : Array Value) (meth : Method) (c : Code) : Prop :=
  p.tables.exec = Jvm.exec ∧ c.code = r.2.1 ∧ meth.sig.returnType = r.2.2.2.2.1 ∧ c.maxLocals = r.2.2.2.1 ∧ s.vm.findClass (pN r.2.2.2.2.2.1) = some m.cls ∧ (∀ w ∈ gW, w.before args s = true) ∧ (r.2.2.2.2.2.2.2 = true → meth.name = "<init>") ∧ meth.locks = false ∧ EnS dA D aS s ∧ EnH X b aS aV N0 s s.heap ∧ N0 ≤ s.heap.size
/-- one instruction: what comes behind it gives what stands before it -/
def SW (X : mX) (b aS aV N0 : Nat) (dA : Nat → ClassId) (D : va_G) (r : pMT) (pc : Nat) (L st : List Value) (h : mH) (q : mG) : Prop :=
  h.length ≤ q.2.2.2.length ∧ tot h ≤ tot q.2.2.2 ∧ ∀ {p : Program} {l : Launch} {e : Env} {R : Room} {s : State} {m : MethodId} {args : Array Value} {below : List Frame} {meth : Method} {c : Code} {Q : State → Prop},
    Fx X b aS aV N0 dA D r p s m args meth c → ∀ (n0 t0 : Nat), s.heap.size = N0 + n0 → n0 ≤ h.length → t0 ≤ tot h → q.2.2.2.length ≤ n0 + R.cells → tot q.2.2.2 ≤ t0 + R.slots → 4 ≤ R.frames → 128 ≤ R.locals →
    ∀ {H : Heap} {locs : List Loc} {ls : Array Slot}, va_P D pcl (wsOf b aS N0 dA h) H → va_S (fun q => N0 ≤ q) s.heap H locs → LR b aS N0 r.2.2.2.2.2.2.1 r.2.2.2.1 L ls →
    (∀ {H : Heap} {locs : List Loc} {ls : Array Slot}, va_P D pcl (wsOf b aS N0 dA q.2.2.2) H → va_S (fun q => N0 ≤ q) s.heap H locs → LR b aS N0 r.2.2.2.2.2.2.1 r.2.2.2.1 q.2.1 ls →
      W p l e R s m args below meth c H locs (q.2.2.2.length - n0) (tot q.2.2.2 - t0) Q (F0 m q.1 ls (q.2.2.1.map (encV b aS N0)))) →
    W p l e R s m args below meth c H locs (h.length - n0) (tot h - t0) Q (F0 m pc ls (st.map (encV b aS N0)))
theorem bifs {α : Type} {b : Bool} {x : Option α} {y : α} (h : (bif b then x else none) = some y) : b = true ∧ x = some y := by
  cases b
  · cases h
  · exact ⟨rfl, h⟩
theorem bifn {α : Type} {b : Bool} {x : Option α} {y : α} (h : (bif b then none else x) = some y) : b = false ∧ x = some y := by
  cases b
  · exact ⟨rfl, h⟩
  · cases h
section SWs
variable {X : mX} {b aS aV N0 : Nat} {dA : Nat → ClassId} {D : va_G} {r : pMT} {pc pc' : Nat} {L L' st st' : List Value} {h h' : mH}
/-- neither locals nor cells change -/
theorem SW.p (key : ∀ {p : Program} {l : Launch} {e : Env} {R : Room} {s : State} {m : MethodId} {args : Array Value} {below : List Frame} {meth : Method} {c : Code} {Q : State → Prop} {H : Heap} {locs : List Loc} {cells slots : Nat} {ls : Array Slot},
    p.tables.exec = Jvm.exec → c.code = r.2.1 → s.vm.findClass (pN r.2.2.2.2.2.1) = some m.cls → (∀ w ∈ gW, w.before args s = true) → LR b aS N0 r.2.2.2.2.2.2.1 r.2.2.2.1 L ls →
    W p l e R s m args below meth c H locs cells slots Q (F0 m pc' ls (st'.map (encV b aS N0))) → W p l e R s m args below meth c H locs cells slots Q (F0 m pc ls (st.map (encV b aS N0)))) :
    SW X b aS aV N0 dA D r pc L st h (pc', L, st', h) :=
  ⟨Nat.le_refl _, Nat.le_refl _, fun F _ _ _ _ _ _ _ _ _ _ _ _ hP hS hL k => key F.1 F.2.1 F.2.2.2.2.1 F.2.2.2.2.2.1 hL (k hP hS hL)⟩
/-- locals change -/
theorem SW.l (key : ∀ {p : Program} {l : Launch} {e : Env} {R : Room} {s : State} {m : MethodId} {args : Array Value} {below : List Frame} {meth : Method} {c : Code} {Q : State → Prop} {H : Heap} {locs : List Loc} {cells slots : Nat} {ls : Array Slot},
    p.tables.exec = Jvm.exec → c.code = r.2.1 → LR b aS N0 r.2.2.2.2.2.2.1 r.2.2.2.1 L ls →
    (∀ ls, LR b aS N0 r.2.2.2.2.2.2.1 r.2.2.2.1 L' ls → W p l e R s m args below meth c H locs cells slots Q (F0 m pc' ls (st'.map (encV b aS N0)))) → W p l e R s m args below meth c H locs cells slots Q (F0 m pc ls (st.map (encV b aS N0)))) :
    SW X b aS aV N0 dA D r pc L st h (pc', L', st', h) :=
  ⟨Nat.le_refl _, Nat.le_refl _, fun F _ _ _ _ _ _ _ _ _ _ _ _ hP hS hL k => key F.1 F.2.1 hL (fun _ hL => k hP hS hL)⟩
/-- one cell changes -/
theorem SW.s {k : Nat} {e0 e1 : mE} (he : h[k]? = some e0) (hz : esz e1 = esz e0) (key : ∀ {p : Program} {l : Launch} {e : Env} {R : Room} {s : State} {m : MethodId} {args : Array Value} {below : List Frame} {meth : Method} {c : Code} {Q : State → Prop} {H : Heap} {locs : List Loc} {cells slots : Nat} {ls : Array Slot},
    Fx X b aS aV N0 dA D r p s m args meth c → va_P D pcl (wsOf b aS N0 dA h) H → va_S (fun q => N0 ≤ q) s.heap H locs →
    (∀ (H : Heap) (locs : List Loc), va_P D pcl ((wsOf b aS N0 dA h).set k (N0 + k, encE b aS N0 dA e1)) H → va_D (fun q => N0 ≤ q) ((wsOf b aS N0 dA h).set k (N0 + k, encE b aS N0 dA e1)) → va_S (fun q => N0 ≤ q) s.heap H locs → W p l e R s m args below meth c H locs cells slots Q (F0 m pc' ls (st'.map (encV b aS N0)))) → W p l e R s m args below meth c H locs cells slots Q (F0 m pc ls (st.map (encV b aS N0)))) :
    SW X b aS aV N0 dA D r pc L st h (pc', L, st', h.set k e1) := by
  have ht := tot_set he hz
  refine ⟨by simp, by rw [ht]; exact Nat.le_refl _, fun F n0 t0 _ _ _ _ _ _ _ _ _ _ hP hS hL k => ?_⟩
  refine key F hP hS (fun H locs hP _ hS => ?_)
  have := @k H locs _ (by rw [wsOf_set]; exact hP) hS hL
  dsimp only at this
  rw [List.length_set, ht] at this
  exact this
theorem mtg_ok {off : Int} {t : Nat} (h : mtg pc off = some t) : (pc : Int) + off = (t : Int) := by
  unfold mtg at h
  split at h
  · next q => cases h; exact q
  · cases h
theorem SW.br {off : Int} {c : Prop} [Decidable c] {q : mG} (hm : mbr pc off L st' h c = go q)
    (key : ∀ t : Nat, (pc : Int) + off = (t : Int) → (c → SW X b aS aV N0 dA D r pc L st h (t, L, st', h)) ∧ (¬ c → SW X b aS aV N0 dA D r pc L st h (pc + 3, L, st', h))) : SW X b aS aV N0 dA D r pc L st h q := by
  unfold mbr at hm
  obtain ⟨t, h1, h2⟩ := Option.bind_eq_some_iff.mp hm
  split at h2
  · next hc => cases h2; exact (key t (mtg_ok h1)).1 hc
  · next hc => cases h2; exact (key t (mtg_ok h1)).2 hc
theorem mldI_ok {i : Nat} {x : Int32} (h : mldI L i = some x) : L[i]? = some (.int x) := by
  unfold mldI at h
  split at h
  · next q => cases h; exact q
  · cases h
theorem mldL_ok {i : Nat} {x : Int64} (h : mldL L i = some x) : L[i]? = some (.long x) := by
  unfold mldL at h
  split at h
  · next q => cases h; exact q
  · cases h
theorem mldA_ok {i : Nat} {v : Value} (h : mldA L i = some v) : L[i]? = some v ∧ isRf v = true := by
  unfold mldA at h
  split at h
  · next q => obtain ⟨h1, h2⟩ := bifs h; cases h2; exact ⟨q, h1⟩
  · cases h
theorem cat1 {v : Value} (h : isLg v = false) : v.category = 1 := by
  cases v <;> first | rfl | cases h
theorem hdn {i : Instr} {A B : Prop} (h : A ∨ (psw i = true ∧ B)) (hp : psw i = false) : A := by
  rcases h with h | h
  · exact h
  · rw [hp] at h; cases h.1
/-- what the frame gives is wanted -/
theorem SW.q (key : ∀ {p : Program} {l : Launch} {e : Env} {R : Room} {s : State} {m : MethodId} {args : Array Value} {below : List Frame} {meth : Method} {c : Code} {Q : State → Prop} {H : Heap} {locs : List Loc} {cells slots : Nat} {ls : Array Slot},
    Fx X b aS aV N0 dA D r p s m args meth c → va_P D pcl (wsOf b aS N0 dA h) H → va_S (fun q => N0 ≤ q) s.heap H locs →
    W p l e R s m args below meth c H locs cells slots Q (F0 m pc' ls (st'.map (encV b aS N0))) → W p l e R s m args below meth c H locs cells slots Q (F0 m pc ls (st.map (encV b aS N0)))) :
    SW X b aS aV N0 dA D r pc L st h (pc', L, st', h) :=
  ⟨Nat.le_refl _, Nat.le_refl _, fun F _ _ _ _ _ _ _ _ _ _ _ _ hP hS hL k => key F hP hS (k hP hS hL)⟩
theorem mRow_ok {α : Type} {l : List α} {j : Nat} {ok : α → Bool} {x : α} (h : mRow l j ok = some x) : x ∈ l ∧ ok x = true := by
  unfold mRow at h
  split at h
  · next q => obtain ⟨h1, h2⟩ := bifs h; cases h2; exact ⟨List.mem_of_getElem? q, h1⟩
  · cases h
theorem natb {a c : Nat} (h : Nat.beq a c = true) : a = c := Nat.eq_of_beq_eq_true h
theorem step_ldc {i a : Nat} {q : mG} (hd : decode r.2.1 pc = .ok (.ldc i, 2)) (hm : ((mRow pK a (fun q => Nat.beq q.1 r.2.2.2.2.2.1 && Nat.beq q.2.1 i && !isLg q.2.2.1)).bind fun q => go (pc + 2, L, q.2.2.1 :: st, h)) = go q) : SW X b aS aV N0 dA D r pc L st h q := by
  obtain ⟨⟨o, j, v, w⟩, h1, h2⟩ := Option.bind_eq_some_iff.mp hm
  cases h2
  obtain ⟨h1, h3⟩ := mRow_ok h1
  have h4 := List.all_eq_true.mp pK_ok _ h1
  simp only [Bool.and_eq_true] at h3
  obtain ⟨⟨e1, e2⟩, e3⟩ := h3
  have e1 := natb e1
  have e2 := natb e2
  try dsimp only at e1 e2 e3 h4
  subst e1; subst e2
  cases v with
  | int v => exact SW.p (fun hx hb ho hts hL k => lv_ldc hx hb ho (hts _ (gW_of (lwIs_mem h4) rfl)) hd k)
  | retAddr z =>
    match z, h4 with
    | 1, h4 =>
      simp only [okKr, Bool.and_eq_true] at h4
      have e1 := natb h4.1
      have e2 := natb h4.2
      try dsimp only at e1 e2
      refine SW.q (fun F hP hS k => ?_)
      obtain ⟨hx, hb, -, -, ho, -, -, -, hE, -⟩ := F
      rw [e1] at ho
      rw [e2] at hd
      exact va_ldcS hx hb ho hE.2.2.2.1 hd k
    | 0, h4 => cases h4
    | _ + 2, h4 => cases h4
  | long v => cases e3
  | _ => cases h4
theorem step_ldcw {i a : Nat} {q : mG} (hd : decode r.2.1 pc = .ok (.ldc_w i, 3)) (hm : ((mRow pK a (fun q => Nat.beq q.1 r.2.2.2.2.2.1 && Nat.beq q.2.1 i && (match q.2.2.1 with | .int _ => true | _ => false))).bind fun q => go (pc + 3, L, q.2.2.1 :: st, h)) = go q) : SW X b aS aV N0 dA D r pc L st h q := by
  obtain ⟨⟨o, j, v, w⟩, h1, h2⟩ := Option.bind_eq_some_iff.mp hm
  cases h2
  obtain ⟨h1, h3⟩ := mRow_ok h1
  have h4 := List.all_eq_true.mp pK_ok _ h1
  simp only [Bool.and_eq_true] at h3
  obtain ⟨⟨e1, e2⟩, e3⟩ := h3
  have e1 := natb e1
  have e2 := natb e2
  try dsimp only at e1 e2 e3 h4
  subst e1; subst e2
  cases v with
  | int v => exact SW.p (fun hx hb ho hts hL k => lv_ldcw hx hb ho (hts _ (gW_of (lwIs_mem h4) rfl)) hd k)
  | _ => cases e3
theorem step_ldc2 {i a : Nat} {q : mG} (hd : decode r.2.1 pc = .ok (.ldc2_w i, 3)) (hm : ((mRow pK a (fun q => Nat.beq q.1 r.2.2.2.2.2.1 && Nat.beq q.2.1 i && isLg q.2.2.1)).bind fun q => go (pc + 3, L, q.2.2.1 :: st, h)) = go q) : SW X b aS aV N0 dA D r pc L st h q := by
  obtain ⟨⟨o, j, v, w⟩, h1, h2⟩ := Option.bind_eq_some_iff.mp hm
  cases h2
  obtain ⟨h1, h3⟩ := mRow_ok h1
  have h4 := List.all_eq_true.mp pK_ok _ h1
  simp only [Bool.and_eq_true] at h3
  obtain ⟨⟨e1, e2⟩, e3⟩ := h3
  have e1 := natb e1
  have e2 := natb e2
  try dsimp only at e1 e2 e3 h4
  subst e1; subst e2
  cases v with
  | long v => exact SW.p (fun hx hb ho hts hL k => lv_ldc2 hx hb ho (hts _ (gW_of (lwIs_mem h4) rfl)) hd k)
  | double v => cases h4
  | _ => cases e3
section RF
variable {p : Program} {l : Launch} {e : Env} {R : Room} {s : State} {m : MethodId} {args : Array Value} {below : List Frame} {meth : Method} {c : Code} {Q : State → Prop} {H : Heap} {locs : List Loc} {cells slots : Nat} {ls : Array Slot} {i : Nat} {v : Value} {lg : Bool} {n : Nat} {cc : ByteArray}
theorem encV_rf (h : isRf v = true) : encV b aS N0 v = .null ∨ ∃ a, encV b aS N0 v = .ref a := by
  cases v with
  | null => exact Or.inl rfl
  | ref a => exact Or.inr ⟨_, rfl⟩
  | retAddr z => cases z <;> exact Or.inr ⟨_, rfl⟩
  | _ => cases h
theorem step_aload (hx : p.tables.exec = Jvm.exec) (hb : c.code = cc) (hd : decode cc pc = .ok (.aload i, 2)) (hL : LR b aS N0 lg n L ls) (h1 : L[i]? = some v) (h3 : isRf v = true)
    (k : W p l e R s m args below meth c H locs cells slots Q (F0 m (pc + 2) ls (encV b aS N0 v :: st))) : W p l e R s m args below meth c H locs cells slots Q (F0 m pc ls st) := by
  have h9 := hL.get h1 (by cases v <;> first | rfl | cases h3)
  rcases encV_rf (b := b) (aS := aS) (N0 := N0) h3 with e | ⟨a, e⟩
  · rw [e] at h9 k; exact lv_aloadN hx hb hd h9 k
  · rw [e] at h9 k; exact lv_aload hx hb hd h9 k
theorem step_aload_n {i : Fin 4} (hx : p.tables.exec = Jvm.exec) (hb : c.code = cc) (hd : decode cc pc = .ok (.aload_n i, 1)) (hL : LR b aS N0 lg n L ls) (h1 : L[(i : Nat)]? = some v) (h3 : isRf v = true)
    (k : W p l e R s m args below meth c H locs cells slots Q (F0 m (pc + 1) ls (encV b aS N0 v :: st))) : W p l e R s m args below meth c H locs cells slots Q (F0 m pc ls st) := by
  have h9 := hL.get h1 (by cases v <;> first | rfl | cases h3)
  rcases encV_rf (b := b) (aS := aS) (N0 := N0) h3 with e | ⟨a, e⟩
  · rw [e] at h9 k; exact lv_aload_nN hx hb hd rfl h9 k
  · rw [e] at h9 k; exact lv_aload_n hx hb hd rfl h9 k
theorem step_astore (hx : p.tables.exec = Jvm.exec) (hb : c.code = cc) (hd : decode cc pc = .ok (.astore i, 2)) (hL : LR b aS N0 lg n L ls) (h0 : isRf v = true) (h1 : mst lg L i v = some L')
    (k : ∀ ls, LR b aS N0 lg n L' ls → W p l e R s m args below meth c H locs cells slots Q (F0 m (pc + 2) ls st)) : W p l e R s m args below meth c H locs cells slots Q (F0 m pc ls (encV b aS N0 v :: st)) := by
  have h9 := hL.put (by cases v <;> first | rfl | cases h0) rfl h1
  rcases encV_rf (b := b) (aS := aS) (N0 := N0) h0 with e | ⟨a, e⟩
  · rw [e] at h9 ⊢; exact lv_astoreN hx hb hd hL.1 h9.1 rfl (fun _ g => k _ (h9.2 _ g))
  · rw [e] at h9 ⊢; exact lv_astore hx hb hd hL.1 h9.1 rfl (fun _ g => k _ (h9.2 _ g))
theorem step_astore_n {i : Fin 4} (hx : p.tables.exec = Jvm.exec) (hb : c.code = cc) (hd : decode cc pc = .ok (.astore_n i, 1)) (hL : LR b aS N0 lg n L ls) (h0 : isRf v = true) (h1 : mst lg L (i : Nat) v = some L')
    (k : ∀ ls, LR b aS N0 lg n L' ls → W p l e R s m args below meth c H locs cells slots Q (F0 m (pc + 1) ls st)) : W p l e R s m args below meth c H locs cells slots Q (F0 m pc ls (encV b aS N0 v :: st)) := by
  have h9 := hL.put (by cases v <;> first | rfl | cases h0) rfl h1
  rcases encV_rf (b := b) (aS := aS) (N0 := N0) h0 with e | ⟨a, e⟩
  · rw [e] at h9 ⊢; exact lv_astore_nN hx hb hd rfl hL.1 h9.1 rfl (fun _ g => k _ (h9.2 _ g))
  · rw [e] at h9 ⊢; exact lv_astore_n hx hb hd rfl hL.1 h9.1 rfl (fun _ g => k _ (h9.2 _ g))
end RF
theorem step_iinc {i : Nat} {n : Int} {q : mG} (hd : decode r.2.1 pc = .ok (.iinc i n, 3)) (hm : ((mldI L i).bind fun x => (mst r.2.2.2.2.2.2.1 L i (.int (x + Int32.ofInt n))).bind fun L => go (pc + 3, L, st, h)) = go q) : SW X b aS aV N0 dA D r pc L st h q := by
  obtain ⟨x, h1, h2⟩ := Option.bind_eq_some_iff.mp hm
  obtain ⟨L1, h5, h3⟩ := Option.bind_eq_some_iff.mp h2
  cases h3
  have h4 := mldI_ok h1
  refine SW.l (fun hx hb hL k => ?_)
  obtain ⟨kk, hk⟩ := List.getElem?_of_mem (lvAL_mem.mpr ⟨.int x, h4, rfl, rfl⟩ : (i, encV b aS N0 (.int x)) ∈ lvAL b aS N0 L)
  have h9 := hL.put rfl rfl h5
  exact lv_iinc hx hb hd hL.1 hk rfl h9.1 rfl (fun _ g => k _ (h9.2 _ g))
theorem step_ifnull {off : Int} {v : Value} {q : mG} (hd : decode r.2.1 pc = .ok (.ifnull off, 3)) (hm : ((nulOf v).bind fun b => mbr pc off L st h (b = true)) = go q) : SW X b aS aV N0 dA D r pc L (v :: st) h q := by
  obtain ⟨z, h1, h2⟩ := Option.bind_eq_some_iff.mp hm
  cases v with
  | null => cases h1; exact SW.br h2 (fun t ht => ⟨fun _ => SW.p (fun hx hb ho hts hL k => lv_ifnullN hx hb hd ht k), fun hc => absurd rfl hc⟩)
  | ref a => cases h1; exact SW.br h2 (fun t ht => ⟨fun hc => (by cases hc), fun hc => SW.p (fun hx hb ho hts hL k => lv_ifnull hx hb hd k)⟩)
  | _ => cases h1
theorem step_ifnonnull {off : Int} {v : Value} {q : mG} (hd : decode r.2.1 pc = .ok (.ifnonnull off, 3)) (hm : ((nulOf v).bind fun b => mbr pc off L st h (b = false)) = go q) : SW X b aS aV N0 dA D r pc L (v :: st) h q := by
  obtain ⟨z, h1, h2⟩ := Option.bind_eq_some_iff.mp hm
  cases v with
  | null => cases h1; exact SW.br h2 (fun t ht => ⟨fun hc => (by cases hc), fun hc => SW.p (fun hx hb ho hts hL k => lv_ifnonnullN hx hb hd k)⟩)
  | ref a => cases h1; exact SW.br h2 (fun t ht => ⟨fun _ => SW.p (fun hx hb ho hts hL k => lv_ifnonnull hx hb hd ht k), fun hc => absurd rfl hc⟩)
  | _ => cases h1
theorem step_tsw {dflt lo hi : Int} {offs : Array Int} {x : Int32} {q : mG} (hd : decode r.2.1 pc = .ok (.tableswitch dflt lo hi offs, pil (.tableswitch dflt lo hi offs)) ∨ (psw (.tableswitch dflt lo hi offs) = true ∧ ∃ len, decode r.2.1 pc = .ok (.tableswitch dflt lo hi offs, len))) (hm : ((mtsw pc dflt lo hi offs x).bind fun t => go (t, L, st, h)) = go q) : SW X b aS aV N0 dA D r pc L (.int x :: st) h q := by
  obtain ⟨t, h1, h2⟩ := Option.bind_eq_some_iff.mp hm
  cases h2
  obtain ⟨len, hd⟩ : ∃ len, decode r.2.1 pc = .ok (.tableswitch dflt lo hi offs, len) := hd.elim (fun g => ⟨_, g⟩) (fun g => g.2)
  unfold mtsw at h1
  split at h1
  · next hc => exact SW.p (fun hx hb ho hts hL k => lv_tableOut hx hb hd hc (mtg_ok h1) k)
  · next hc =>
    split at h1
    · next o ho => exact SW.p (fun hx hb _ hts hL k => lv_tableIn hx hb hd (fun g => hc (Or.inl g)) (fun g => hc (Or.inr g)) ho (mtg_ok h1) k)
    · cases h1
theorem step_lsw {dflt : Int} {ps : Array (Int × Int)} {x : Int32} {q : mG} (hd : decode r.2.1 pc = .ok (.lookupswitch dflt ps, pil (.lookupswitch dflt ps)) ∨ (psw (.lookupswitch dflt ps) = true ∧ ∃ len, decode r.2.1 pc = .ok (.lookupswitch dflt ps, len))) (hm : ((mlsw pc dflt ps x).bind fun t => go (t, L, st, h)) = go q) : SW X b aS aV N0 dA D r pc L (.int x :: st) h q := by
  obtain ⟨t, h1, h2⟩ := Option.bind_eq_some_iff.mp hm
  cases h2
  obtain ⟨len, hd⟩ : ∃ len, decode r.2.1 pc = .ok (.lookupswitch dflt ps, len) := hd.elim (fun g => ⟨_, g⟩) (fun g => g.2)
  unfold mlsw at h1
  obtain ⟨h3, h4⟩ := bifs h1
  exact SW.p (fun hx hb ho hts hL k => lv_lookup hx hb hd h3 rfl (mtg_ok h4) k)
theorem u_lay_good {C : String} {T : u_T} {k : Nat} : goodWord (u_lay C T k) = true := by
  unfold u_lay
  split <;> rfl
theorem u_ws_g {ci : Nat} {q : vw_C} (hc : pcl[ci]? = some q) : ∀ w ∈ u_ws q.1 q.2.1 q.2.2, w ∈ gW := fun w hw => by
  refine gW_of ((pcl_ok ci q hc).1 w hw) ?_
  unfold u_ws at hw
  obtain ⟨k, -, rfl⟩ := List.mem_map.mp hw
  exact u_lay_good
theorem field_ok {f : pFT} (hf : f ∈ pF) {ci : Nat} (hci : f.2.2.2.2.1.contains ci = true) : ∃ q, pcl[ci]? = some q ∧ f.2.2.2.1 < q.2.2 ∧ Jvm.Cond.fieldLink (pN f.1) f.2.1 f.2.2.1 (q.2.1 f.2.2.2.1).2.1 (q.2.1 f.2.2.2.1).2.2.1 ∈ gW ∧
    ((q.2.1 f.2.2.2.1).1 = f.2.2.1 ∨ Jvm.Cond.sameField f.2.2.1 (q.2.1 f.2.2.2.1).1 (q.2.1 f.2.2.2.1).2.1 (q.2.1 f.2.2.2.1).2.2.1 ∈ gW) ∧
    (q.2.1 f.2.2.2.1).2.2.2 = !Nat.beq f.2.2.2.2.2.2.2.2 0 ∧ (Nat.beq f.2.2.2.2.2.2.2.2 1 = true → (q.2.1 f.2.2.2.1).1 = pN f.1) := by
  have h1 := List.all_eq_true.mp pF_ok f hf
  unfold okFr at h1
  have h2 := List.all_eq_true.mp h1 ci (List.contains_iff_mem.mp hci)
  try dsimp only at h2
  split at h2
  · next q hq =>
    simp only [Bool.and_eq_true, decide_eq_true_eq, Nat.blt_eq] at h2
    obtain ⟨⟨⟨⟨g1, g2⟩, g3⟩, g4⟩, g5⟩ := h2
    refine ⟨q, hq, g1, gW_of (lwIs_mem g2) rfl, ?_, g4, fun h => ?_⟩
    · cases hz : Nat.beq f.2.2.2.2.2.2.1 0 with
      | true => rw [hz] at g3; exact Or.inl (of_decide_eq_true g3)
      | false => rw [hz] at g3; exact Or.inr (gW_of (lwIs_mem g3) rfl)
    · rw [h] at g5
      simpa using g5
  · cases h2
theorem same_ok {args : Array Value} {s : State} {decl ref n d : String} (hts : ∀ w ∈ gW, w.before args s = true) (h : decl = ref ∨ Jvm.Cond.sameField ref decl n d ∈ gW) : ∀ x, s.fieldFound? decl n d = some x → s.fieldFound? ref n d = some x := by
  rcases h with rfl | h
  · exact fun _ h => h
  · exact fun x hx => u_same (hts _ h) x hx
theorem hFI_ok {a k : Nat} {cis : List Nat} {x : Int32} (hh : hFI h a k cis = some x) : ∃ ci fs, h[a]? = some (.inr (ci, fs)) ∧ cis.contains ci = true ∧ fs[k]? = some (.int x) := by
  unfold hFI at hh
  split at hh
  · next ci fs hq =>
    obtain ⟨h1, h2⟩ := bifs hh
    split at h2
    · next y hy => cases h2; exact ⟨ci, fs, hq, h1, hy⟩
    · cases h2
  · cases hh
theorem hFR_ok {a k : Nat} {cis : List Nat} {x : Nat} (hh : hFR h a k cis = some x) : ∃ ci fs, h[a]? = some (.inr (ci, fs)) ∧ cis.contains ci = true ∧ fs[k]? = some (.ref x) := by
  unfold hFR at hh
  split at hh
  · next ci fs hq =>
    obtain ⟨h1, h2⟩ := bifs hh
    split at h2
    · next y hy => cases h2; exact ⟨ci, fs, hq, h1, hy⟩
    · cases h2
  · cases hh
theorem step_getv {i : Nat} {f : pFT} {v : Value} {ci z : Nat} {fs : List Value} (hd : decode r.2.1 pc = .ok (.getfield i, 3)) (hf : f ∈ pF) (e1 : f.1 = r.2.2.2.2.2.1) (e2 : f.2.1 = i) (hz : h[z]? = some (.inr (ci, fs))) (hci : f.2.2.2.2.1.contains ci = true) (hv : fs[f.2.2.2.1]? = some v) :
    SW X b aS aV N0 dA D r pc L (.ref z :: st) h (pc + 3, L, v :: st, h) := by
  obtain ⟨q, g1, g2, g3, g4, -, -⟩ := field_ok hf hci
  refine SW.q (fun F hP hS k => ?_)
  obtain ⟨hx, hb, -, -, ho, hts, -, -, hE, -⟩ := F
  rw [← e1] at ho
  rw [← e2] at hd
  exact va_get (Ts := gW) hx hb hts (u_ws_g g1) ho hE.1 hP z (wsOf_at hz) g1 f.2.2.2.1 g2 (hts _ g3) (same_ok hts g4) (by rw [List.getElem?_map, hv]; rfl) hd k
theorem step_getf {i a z : Nat} {q : mG} (hd : decode r.2.1 pc = .ok (.getfield i, 3)) (hm : ((mRow pF a (fun q => Nat.beq q.1 r.2.2.2.2.2.1 && Nat.beq q.2.1 i)).bind fun f => bif Nat.beq f.2.2.2.2.2.2.2.1 0
      then (hFI h z f.2.2.2.1 f.2.2.2.2.1).bind fun x => go (pc + 3, L, .int x :: st, h)
      else (hFR h z f.2.2.2.1 f.2.2.2.2.1).bind fun x => go (pc + 3, L, .ref x :: st, h)) = go q) : SW X b aS aV N0 dA D r pc L (.ref z :: st) h q := by
  obtain ⟨f, h1, h2⟩ := Option.bind_eq_some_iff.mp hm
  obtain ⟨h1, h3⟩ := mRow_ok h1
  simp only [Bool.and_eq_true] at h3
  cases hb : Nat.beq f.2.2.2.2.2.2.2.1 0 with
  | true =>
    rw [hb] at h2
    obtain ⟨x, h4, h5⟩ := Option.bind_eq_some_iff.mp h2
    cases h5
    obtain ⟨ci, fs, g1, g2, g3⟩ := hFI_ok h4
    exact step_getv hd h1 (natb h3.1) (natb h3.2) g1 g2 g3
  | false =>
    rw [hb] at h2
    obtain ⟨x, h4, h5⟩ := Option.bind_eq_some_iff.mp h2
    cases h5
    obtain ⟨ci, fs, g1, g2, g3⟩ := hFR_ok h4
    exact step_getv hd h1 (natb h3.1) (natb h3.2) g1 g2 g3
theorem okV_enc {ty : FieldType} {v : Value} (hv : okV ty v = true) : narrow ty (encV b aS N0 v) = encV b aS N0 v ∧ fits ty (encV b aS N0 v) = true := by
  unfold okV at hv
  split at hv
  · exact ⟨rfl, rfl⟩
  · next x =>
    rw [Bool.or_eq_true, decide_eq_true_eq, decide_eq_true_eq] at hv
    rcases hv with rfl | rfl
    · exact ⟨(by decide +kernel : narrow FieldType.boolean (.int 0) = .int 0), (by decide +kernel : fits FieldType.boolean (.int 0) = true)⟩
    · exact ⟨(by decide +kernel : narrow FieldType.boolean (.int 1) = .int 1), (by decide +kernel : fits FieldType.boolean (.int 1) = true)⟩
  all_goals first | exact ⟨rfl, rfl⟩ | cases hv
theorem step_putf {i a z : Nat} {v : Value} {q : mG} (hd : decode r.2.1 pc = .ok (.putfield i, 3)) (hm : ((mRow pF a (fun q => Nat.beq q.1 r.2.2.2.2.2.1 && Nat.beq q.2.1 i && (Nat.beq q.2.2.2.2.2.2.2.2 0 || (Nat.beq q.2.2.2.2.2.2.2.2 1 && r.2.2.2.2.2.2.2)))).bind fun f =>
      (hFS h z f.2.2.2.1 f.2.2.2.2.1 v).bind fun h => go (pc + 3, L, st, h)) = go q) : SW X b aS aV N0 dA D r pc L (v :: .ref z :: st) h q := by
  obtain ⟨f, h1, h2⟩ := Option.bind_eq_some_iff.mp hm
  obtain ⟨h1, h3⟩ := mRow_ok h1
  obtain ⟨h', h4, h5⟩ := Option.bind_eq_some_iff.mp h2
  cases h5
  simp only [Bool.and_eq_true, Bool.or_eq_true] at h3
  obtain ⟨⟨e1, e2⟩, e3⟩ := h3
  have e1 := natb e1
  have e2 := natb e2
  unfold hFS at h4
  split at h4
  · next ci fs hq =>
    obtain ⟨h5, h6⟩ := bifs h4
    cases h6
    simp only [Bool.and_eq_true, Nat.blt_eq] at h5
    obtain ⟨⟨h5, h6⟩, h7⟩ := h5
    obtain ⟨q, g1, g2, g3, g4, g5, g6⟩ := field_ok h1 h5
    obtain ⟨n1, n2⟩ := okV_enc (b := b) (aS := aS) (N0 := N0) h7
    refine SW.s hq (by simp [esz]) (fun F hP hS k => ?_)
    obtain ⟨hx, hb, -, -, ho, hts, hini, -, hE, -⟩ := F
    rw [← e1] at ho
    rw [← e2] at hd
    have hty := (pcl_ok ci q g1).2.1
    have k' := k
    simp only [encE, List.map_set] at k'
    rcases e3 with e3 | ⟨e3, e4⟩
    · exact va_put (Ts := gW) hx hb hts (u_ws_g g1) (pY ci) hty (pcl_ok ci q g1).2.2.1 ho hE.1 hP wsOf_D hS z (wsOf_at hq) g1 f.2.2.2.1 g2 (hts _ g3) (same_ok hts g4) (by rw [g5, e3]; rfl) (hty _ g2) n1 n2 (by simpa using h6) hd k'
    · have e5 : Nat.beq f.2.2.2.2.2.2.2.2 0 = false := by rw [natb e3]; rfl
      exact va_putF (Ts := gW) hx hb hts (u_ws_g g1) (pY ci) hty (pcl_ok ci q g1).2.2.1 ho hE.1 hP wsOf_D hS z (wsOf_at hq) g1 f.2.2.2.1 g2 (hts _ g3) (same_ok hts g4) (by rw [g5, e5]; rfl) (hini e4) (g6 e3) (hty _ g2) n1 n2 (by simpa using h6) hd k'
  · cases h4
theorem mib_in {i : Int32} {n : Nat} (hi : mib i n = true) : vp_in i n := by
  unfold mib at hi
  simp only [Bool.and_eq_true, Bool.not_eq_true', decide_eq_false_iff_not, Nat.blt_eq] at hi
  exact fun g => g.elim hi.1 (fun g => by omega)
theorem encA_1 (x : vp_A) : (encA N0 x).1 = x.1 := by
  obtain ⟨n, f | f | f | f | f⟩ := x <;> rfl
theorem tysL_at {z : Nat} (hz : z < 4) : ∃ ty, (tysL dA)[z]? = some (dA z, ty) := by
  match z, hz with
  | 0, _ => exact ⟨_, rfl⟩
  | 1, _ => exact ⟨_, rfl⟩
  | 2, _ => exact ⟨_, rfl⟩
  | 3, _ => exact ⟨_, rfl⟩
theorem step_alen {z : Nat} {q : mG} (hd : decode r.2.1 pc = .ok (.arraylength, 1)) (hm : ((hAL h z).bind fun n => go (pc + 1, L, .int (Int32.ofNat n) :: st, h)) = go q) : SW X b aS aV N0 dA D r pc L (.ref z :: st) h q := by
  obtain ⟨n, h1, h2⟩ := Option.bind_eq_some_iff.mp hm
  cases h2
  unfold hAL at h1
  split at h1
  · next t' n' x hq =>
    obtain ⟨h2, h3⟩ := bifs h1
    cases h3
    obtain ⟨ty, hty⟩ := tysL_at (dA := dA) (Nat.blt_eq.mp h2)
    refine SW.q (fun F hP hS k => ?_)
    obtain ⟨hx, hb, -, -, ho, hts, hini, -, hE, hH, hN⟩ := F
    exact va_alen hx hb hE.1 hP z t' (wsOf_at hq) hty (by rw [encA_1]) hd k
  · cases h1
theorem step_slen (hd : decode r.2.1 pc = .ok (.arraylength, 1)) : SW X b aS aV N0 dA D r pc L (.retAddr 0 :: st) h (pc + 1, L, .int (Int32.ofNat X.1) :: st, h) := by
  refine SW.q (fun F hP hS k => ?_)
  obtain ⟨hx, hb, -, -, ho, hts, hini, -, hE, hH, hN⟩ := F
  exact va_slen hx hb hH.1 (Nat.lt_of_lt_of_le hH.2.1 hN) (Nat.not_le.mpr hH.2.1) hS hd k
theorem step_sld {i : Int32} {q : mG} (hd : decode r.2.1 pc = .ok (.iaload, 1)) (hm : (bif mib i X.1 then go (pc + 1, L, .int (X.2 i.toNatClampNeg) :: st, h) else none) = go q) : SW X b aS aV N0 dA D r pc L (.int i :: .retAddr 0 :: st) h q := by
  obtain ⟨h1, h2⟩ := bifs hm
  cases h2
  refine SW.q (fun F hP hS k => ?_)
  obtain ⟨hx, hb, -, -, ho, hts, hini, -, hE, hH, hN⟩ := F
  exact va_sld hx hb hH.1 (Nat.lt_of_lt_of_le hH.2.1 hN) (Nat.not_le.mpr hH.2.1) hS (mib_in h1) hd k
theorem hAI_ok {t a : Nat} {i x : Int32} (hh : hAI t h a i = some x) : ∃ n f, h[a]? = some (.inl (t, n, .inl f)) ∧ mib i n = true ∧ x = f i.toNatClampNeg := by
  unfold hAI at hh
  split at hh
  · next t' n f hq =>
    obtain ⟨h1, h2⟩ := bifs hh
    rw [Bool.and_eq_true] at h1
    cases h2
    rw [natb h1.1]
    exact ⟨n, f, hq, h1.2, rfl⟩
  · cases hh
theorem step_iald {z : Nat} {i : Int32} {q : mG} (hd : decode r.2.1 pc = .ok (.iaload, 1)) (hm : ((hAI 0 h z i).bind fun x => go (pc + 1, L, .int x :: st, h)) = go q) : SW X b aS aV N0 dA D r pc L (.int i :: .ref z :: st) h q := by
  obtain ⟨x, h1, h2⟩ := Option.bind_eq_some_iff.mp hm
  cases h2
  obtain ⟨n, f, g1, g2, rfl⟩ := hAI_ok h1
  refine SW.q (fun F hP hS k => ?_)
  obtain ⟨hx, hb, -, -, ho, hts, hini, -, hE, hH, hN⟩ := F
  exact va_iald hx hb hE.1 hP z 0 (wsOf_at g1) rfl (mib_in g2) hd k
theorem step_bald {z : Nat} {i : Int32} {q : mG} (hd : decode r.2.1 pc = .ok (.baload, 1)) (hm : ((hAI 1 h z i).bind fun x => go (pc + 1, L, .int x :: st, h)) = go q) : SW X b aS aV N0 dA D r pc L (.int i :: .ref z :: st) h q := by
  obtain ⟨x, h1, h2⟩ := Option.bind_eq_some_iff.mp hm
  cases h2
  obtain ⟨n, f, g1, g2, rfl⟩ := hAI_ok h1
  refine SW.q (fun F hP hS k => ?_)
  obtain ⟨hx, hb, -, -, ho, hts, hini, -, hE, hH, hN⟩ := F
  exact va_bald hx hb hE.1 hP z 1 (wsOf_at g1) rfl (mib_in g2) hd k
theorem hAS_ok {t a : Nat} {i x : Int32} (hh : hAS t h a i x = some h') : ∃ n f, h[a]? = some (.inl (t, n, .inl f)) ∧ mib i n = true ∧ h' = h.set a (.inl (t, n, .inl (upd f i.toNatClampNeg x))) := by
  unfold hAS at hh
  split at hh
  · next t' n f hq =>
    obtain ⟨h1, h2⟩ := bifs hh
    rw [Bool.and_eq_true] at h1
    cases h2
    rw [natb h1.1]
    exact ⟨n, f, hq, h1.2, rfl⟩
  · cases hh
theorem step_iast {z : Nat} {i x : Int32} {q : mG} (hd : decode r.2.1 pc = .ok (.iastore, 1)) (hm : ((hAS 0 h z i x).bind fun h => go (pc + 1, L, st, h)) = go q) : SW X b aS aV N0 dA D r pc L (.int x :: .int i :: .ref z :: st) h q := by
  obtain ⟨h', h1, h2⟩ := Option.bind_eq_some_iff.mp hm
  cases h2
  obtain ⟨n, f, g1, g2, rfl⟩ := hAS_ok h1
  refine SW.s g1 rfl (fun F hP hS k => ?_)
  obtain ⟨hx, hb, -, -, ho, hts, hini, -, hE, hH, hN⟩ := F
  exact va_iast hx hb hE.1 hP wsOf_D hS z 0 (wsOf_at g1) rfl (mib_in g2) hd k
theorem step_bast {z : Nat} {i x : Int32} {q : mG} (hd : decode r.2.1 pc = .ok (.bastore, 1)) (hm : ((hAS 1 h z i x.toInt8.toInt32).bind fun h => go (pc + 1, L, st, h)) = go q) : SW X b aS aV N0 dA D r pc L (.int x :: .int i :: .ref z :: st) h q := by
  obtain ⟨h', h1, h2⟩ := Option.bind_eq_some_iff.mp hm
  cases h2
  obtain ⟨n, f, g1, g2, rfl⟩ := hAS_ok h1
  refine SW.s g1 rfl (fun F hP hS k => ?_)
  obtain ⟨hx, hb, -, -, ho, hts, hini, -, hE, hH, hN⟩ := F
  rw [← vp_nar_byte] at k
  exact va_bast hx hb hE.1 hP wsOf_D hS z 1 (wsOf_at g1) rfl (mib_in g2) hd k
theorem va_rf_enc (o : Option Nat) : encV b aS N0 (va_rf o) = va_rf (o.map (N0 + ·)) := by cases o <;> rfl
theorem step_aald {z : Nat} {i : Int32} {q : mG} (hd : decode r.2.1 pc = .ok (.aaload, 1)) (hm : ((hAR h z i).bind fun o => go (pc + 1, L, va_rf o :: st, h)) = go q) : SW X b aS aV N0 dA D r pc L (.int i :: .ref z :: st) h q := by
  obtain ⟨o, h1, h2⟩ := Option.bind_eq_some_iff.mp hm
  cases h2
  unfold hAR at h1
  split at h1
  · next t' n f hq =>
    obtain ⟨h2, h3⟩ := bifs h1
    cases h3
    rw [Bool.and_eq_true] at h2
    have hin := mib_in h2.2
    have hlt : i.toNatClampNeg < n := Nat.not_le.mp fun q => hin (Or.inr q)
    obtain ⟨ty, hty, hrk⟩ : ∃ ty, (tysL dA)[t']? = some (dA t', ty) ∧ refKind ty = true := by
      rw [Bool.or_eq_true] at h2
      rcases h2.1 with h4 | h4 <;> (rw [natb h4]; exact ⟨_, rfl, rfl⟩)
    refine SW.q (fun F hP hS k => ?_)
    obtain ⟨hx, hb, -, -, ho, hts, hini, -, hE, hH, hN⟩ := F
    rw [List.map_cons, va_rf_enc] at k
    exact W.aald (v := va_rf ((f i.toNatClampNeg).map (N0 + ·))) (ty := ty) hx hb (hP z _ (wsOf_at hq)) ((hE.1.2 t' _ hty).1 n (fun j => va_rf ((f j).map (N0 + ·)))) hrk (fun q => by cases q)
      (by show ¬ (i < 0 ∨ (arrV _ _ _).slots.size ≤ _); rw [arrV_size]; exact hin) (by show (arrV (dA t') n (fun j => va_rf ((f j).map (N0 + ·)))).slots[_]? = _; rw [arrV_read _ _ hlt]) rfl rfl hd k
  · cases h1
theorem enc_up {t n i v : Nat} {f : Nat → Option Nat} : encE b aS N0 dA (.inl (t, n, .inr (.inr (.inr (.inr (va_up f i (some v))))))) = .inl (dA t, n, .inr (.inr (.inr (.inr (va_up (fun j => (f j).map (N0 + ·)) i (some (N0 + v))))))) := by
  have e : (fun j => (va_up f i (some v) j).map (N0 + ·)) = va_up (fun j => (f j).map (N0 + ·)) i (some (N0 + v)) := by
    funext j
    unfold va_up
    split <;> rfl
  show Sum.inl (dA t, n, _) = _
  rw [← e]
theorem hCl_ok {a ci : Nat} (hh : hCl h a = some ci) : ∃ fs, h[a]? = some (.inr (ci, fs)) := by
  unfold hCl at hh
  split at hh
  · next c fs hq => cases hh; exact ⟨fs, hq⟩
  · cases hh
theorem step_aast {z v : Nat} {i : Int32} {q : mG} (hd : decode r.2.1 pc = .ok (.aastore, 1)) (hm : ((hAQ h z i v).bind fun h => go (pc + 1, L, st, h)) = go q) : SW X b aS aV N0 dA D r pc L (.ref v :: .int i :: .ref z :: st) h q := by
  obtain ⟨h', h1, h2⟩ := Option.bind_eq_some_iff.mp hm
  cases h2
  unfold hAQ at h1
  split at h1
  · next t' n f hq =>
    obtain ⟨h2, h3⟩ := bifs h1
    cases h3
    rw [Bool.and_eq_true, Bool.and_eq_true] at h2
    obtain ⟨⟨h2, h3⟩, h4⟩ := h2
    rw [natb h2] at hq ⊢
    split at h4
    · next ci hci =>
      obtain ⟨fs, hv⟩ := hCl_ok hci
      obtain ⟨rw, hr, hA⟩ : ∃ rw, pcl[ci]? = some rw ∧ rw.1 ∈ AnsCs := by
        unfold isAns at h4
        simp only [Bool.or_eq_true] at h4
        rcases h4 with (((h4 | h4) | h4) | h4) | h4 <;> (rw [natb h4]; exact ⟨_, rfl, by decide +kernel⟩)
      refine SW.s hq rfl (fun F hP hS k => ?_)
      obtain ⟨hx, hb, -, -, ho, hts, hini, -, hE, hH, hN⟩ := F
      refine va_astqO hx hb hE.1 hP wsOf_D hS z 2 v ci (wsOf_at hq) rfl (hE.2.2.2.2 _ hA) (wsOf_at hv) hr (mib_in h3) hd (fun H1 locs1 q1 q2 q3 => k H1 locs1 ?_ ?_ q3)
      · rw [enc_up]; exact q1
      · rw [enc_up]; exact q2
    · cases h4
  · cases h1
/-- a cell is made -/
theorem SW.n {e1 : mE} (key : ∀ {p : Program} {l : Launch} {e : Env} {R : Room} {s : State} {m : MethodId} {args : Array Value} {below : List Frame} {meth : Method} {c : Code} {Q : State → Prop} {H : Heap} {locs : List Loc} {cells slots : Nat} {ls : Array Slot},
    Fx X b aS aV N0 dA D r p s m args meth c → cells + 1 ≤ R.cells → slots + esz e1 ≤ R.slots → va_P D pcl (wsOf b aS N0 dA h) H → va_S (fun q => N0 ≤ q) s.heap H locs →
    (∀ (q : Nat) (H : Heap), va_P D pcl (wsOf b aS N0 dA h ++ [(q, encE b aS N0 dA e1)]) H → va_D (fun q => N0 ≤ q) (wsOf b aS N0 dA h ++ [(q, encE b aS N0 dA e1)]) → va_S (fun q => N0 ≤ q) s.heap H locs → W p l e R s m args below meth c H locs (cells + 1) (slots + esz e1) Q (F0 m pc' ls (.ref q :: st'.map (encV b aS N0)))) → W p l e R s m args below meth c H locs cells slots Q (F0 m pc ls (st.map (encV b aS N0)))) :
    SW X b aS aV N0 dA D r pc L st h (pc', L, .ref h.length :: st', h ++ [e1]) := by
  refine ⟨by simp, by rw [tot_push]; exact Nat.le_add_right _ _, fun F n0 t0 hsz hn ht hc hs _ _ H locs ls hP hS hL k => ?_⟩
  have hc : (h ++ [e1]).length ≤ n0 + _ := hc
  rw [List.length_append] at hc
  have hs : tot (h ++ [e1]) ≤ t0 + _ := hs
  rw [tot_push] at hs
  refine key F (by simp at hc; omega) (by omega) hP hS (fun q H hP hD hS => ?_)
  intro T hT Xs
  have hq : q = N0 + h.length := by
    have z1 := Xs.heapSize
    rw [hT, hsz] at z1
    have z2 : q < H.size := (hP (wsOf b aS N0 dA h).length (q, _) (by rw [List.getElem?_append_right (Nat.le_refl _), Nat.sub_self]; rfl)).lt
    have z3 : N0 ≤ q := hD.2 (wsOf b aS N0 dA h).length (q, encE b aS N0 dA e1) (by rw [List.getElem?_append_right (Nat.le_refl _), Nat.sub_self]; rfl)
    by_cases hlt : q < N0 + h.length
    · obtain ⟨e0, he⟩ : ∃ e0, h[q - N0]? = some e0 := ⟨_, List.getElem?_eq_getElem (by omega)⟩
      have h8 := wsOf_at (b := b) (aS := aS) (N0 := N0) (dA := dA) he
      have h9 : (wsOf b aS N0 dA h ++ [(q, encE b aS N0 dA e1)])[q - N0]? = some (N0 + (q - N0), encE b aS N0 dA e0) := by
        rw [List.getElem?_append_left (by rw [wsOf_len]; omega)]; exact h8
      have h10 := hD.1 _ (wsOf b aS N0 dA h).length _ (q, encE b aS N0 dA e1) h9 (by rw [List.getElem?_append_right (Nat.le_refl _), Nat.sub_self]; rfl) (by show N0 + (q - N0) = q; omega)
      rw [wsOf_len] at h10
      omega
    · omega
  subst hq
  have h11 := @k H locs ls (by rw [wsOf_push]; exact hP) hS hL
  rw [List.length_append, tot_push, show h.length + [e1].length - n0 = h.length - n0 + 1 by simp; omega, show tot h + esz e1 - t0 = tot h - t0 + esz e1 by omega] at h11
  exact h11 T hT Xs
theorem pD_enc (ci : Nat) : (pD ci).map (encV b aS N0) = pD ci := by
  unfold pD
  rw [List.map_map]
  apply List.map_congr_left
  intro k _
  show encV b aS N0 (defaultValue _) = defaultValue _
  cases pY ci k <;> rfl
theorem step_new {i a : Nat} {q : mG} (hd : decode r.2.1 pc = .ok (.new i, 3)) (hm : ((mRow pM a (fun q => Nat.beq q.1 r.2.2.2.2.2.1 && Nat.beq q.2.1 i)).bind fun f => go (pc + 3, L, .ref h.length :: st, h ++ [.inr (f.2.2.1, pD f.2.2.1)])) = go q) : SW X b aS aV N0 dA D r pc L st h q := by
  obtain ⟨f, h1, h2⟩ := Option.bind_eq_some_iff.mp hm
  cases h2
  obtain ⟨h1, h3⟩ := mRow_ok h1
  simp only [Bool.and_eq_true] at h3
  have e1 := natb h3.1
  have e2 := natb h3.2
  have h4 := List.all_eq_true.mp pM_ok _ h1
  unfold okMr at h4
  split at h4
  · next cq hq =>
    simp only [Bool.and_eq_true] at h4
    obtain ⟨⟨w1, w2⟩, w3⟩ := h4
    have hlen : (pD f.2.2.1).length = cq.2.2 := by simp [pD, hq]
    refine SW.n (fun F hc hs hP hS k => ?_)
    obtain ⟨hx, hb, -, -, ho, hts, hini, -, hE, hH, hN⟩ := F
    rw [← e1] at ho
    rw [← e2] at hd
    have hz : esz (.inr (f.2.2.1, pD f.2.2.1)) = cq.2.2 := hlen
    rw [hz] at hs k
    have k' := k
    simp only [encE, pD_enc] at k'
    exact va_new (Ts := gW) hx hb hts (u_ws_g hq) (pY f.2.2.1) (pcl_ok _ _ hq).2.1 ho (hts _ (gW_of (lwIs_mem w1) rfl)) (hts _ (gW_of (lwIs_mem w2) rfl)) (hts _ (gW_of (lwIs_mem w3) rfl)) hE.1 hP wsOf_D hS (fun q h => Nat.le_trans hN h) hq (pcl_ok _ _ hq).2.2.2 hc hs hd k'
  · cases h4
theorem tysK {U : State} {k : List (ClassId × FieldType)} {cA : ClassId} {ty : FieldType} {z : Nat} (h1 : va_K D pcl (tysL dA) U) (h2 : va_K D pcl (tysL dA ++ [(cA, ty)]) U) (hz : (tysL dA)[z]? = some (dA z, ty)) : dA z = cA := by
  have g1 := (h1.2 z _ hz).2
  have g2 := (h2.2 4 (cA, ty) rfl).2
  cases ty with
  | object C =>
    obtain ⟨kA, comp, -, -, -, q1⟩ := g1
    obtain ⟨kA2, comp2, -, -, -, q2⟩ := g2
    exact Option.some.inj (q1.symm.trans q2)
  | _ => exact Option.some.inj (g1.symm.trans g2)
theorem step_newi {n : Int32} {q : mG} (hd : decode r.2.1 pc = .ok (.newarray .int, 2)) (hm : (bif !decide (n < 0) && Nat.ble n.toNatClampNeg 100000 then go (pc + 2, L, .ref h.length :: st, h ++ [.inl (0, n.toNatClampNeg, .inl (fun _ => 0))]) else none) = go q) : SW X b aS aV N0 dA D r pc L (.int n :: st) h q := by
  obtain ⟨h1, h2⟩ := bifs hm
  cases h2
  simp only [Bool.and_eq_true, Bool.not_eq_true', decide_eq_false_iff_not, Nat.ble_eq] at h1
  refine SW.n (fun F hc hs hP hS k => ?_)
  obtain ⟨hx, hb, -, -, ho, hts, hini, -, hE, hH, hN⟩ := F
  refine va_newa (atype := .int) (ty := .int) (N' := n.toNatClampNeg) (a0 := (n.toNatClampNeg, .inl (fun _ => 0))) hx hb (hts _ (gW_of (w := .arrayClass .int) (List.mem_append_right _ (List.mem_of_getElem? (i := 75) (by decide +kernel))) rfl)) rfl hE.1 hP wsOf_D hS (fun q h => Nat.le_trans hN h) (fun _ => rfl) h1.1 rfl (by show n.toNatClampNeg * 4 ≤ _; omega) hc hs hd (fun q cA H1 hK hP hD hS => ?_)
  have e := tysK (k := []) (z := 0) hE.1 hK rfl
  rw [← e] at hP hD
  exact k q H1 hP hD hS
theorem step_newb {n : Int32} {q : mG} (hd : decode r.2.1 pc = .ok (.newarray .byte, 2)) (hm : (bif !decide (n < 0) && Nat.ble n.toNatClampNeg 100000 then go (pc + 2, L, .ref h.length :: st, h ++ [.inl (1, n.toNatClampNeg, .inl (fun _ => 0))]) else none) = go q) : SW X b aS aV N0 dA D r pc L (.int n :: st) h q := by
  obtain ⟨h1, h2⟩ := bifs hm
  cases h2
  simp only [Bool.and_eq_true, Bool.not_eq_true', decide_eq_false_iff_not, Nat.ble_eq] at h1
  refine SW.n (fun F hc hs hP hS k => ?_)
  obtain ⟨hx, hb, -, -, ho, hts, hini, -, hE, hH, hN⟩ := F
  refine va_newa (atype := .byte) (ty := .byte) (N' := n.toNatClampNeg) (a0 := (n.toNatClampNeg, .inl (fun _ => 0))) hx hb (hts _ (gW_of (w := .arrayClass .byte) (List.mem_append_right _ (List.mem_of_getElem? (i := 189) (by decide +kernel))) rfl)) rfl hE.1 hP wsOf_D hS (fun q h => Nat.le_trans hN h) (fun _ => rfl) h1.1 rfl (by show n.toNatClampNeg * 1 ≤ _; omega) hc hs hd (fun q cA H1 hK hP hD hS => ?_)
  have e := tysK (k := []) (z := 1) hE.1 hK rfl
  rw [← e] at hP hD
  exact k q H1 hP hD hS
theorem step_newq {i : Nat} {n : Int32} {q : mG} (hd : decode r.2.1 pc = .ok (.anewarray i, 3)) (hm : (bif Nat.beq r.2.2.2.2.2.1 3 && Nat.beq i 11 && !decide (n < 0) && Nat.ble n.toNatClampNeg 100000 then go (pc + 3, L, .ref h.length :: st, h ++ [.inl (2, n.toNatClampNeg, .inr (.inr (.inr (.inr (fun _ => none)))))]) else none) = go q) : SW X b aS aV N0 dA D r pc L (.int n :: st) h q := by
  obtain ⟨h1, h2⟩ := bifs hm
  cases h2
  simp only [Bool.and_eq_true, Bool.not_eq_true', decide_eq_false_iff_not, Nat.ble_eq] at h1
  obtain ⟨⟨⟨e1, e2⟩, h1⟩, h2⟩ := h1
  have e1 := natb e1
  have e2 := natb e2
  subst e2
  refine SW.n (fun F hc hs hP hS k => ?_)
  obtain ⟨hx, hb, -, -, ho, hts, hini, -, hE, hH, hN⟩ := F
  rw [e1] at ho
  refine va_newq (C := "NotYetSaid$Answer") (N' := n.toNatClampNeg) hx hb ho (hts (.classLink "NotYetSaid$Ride" 11 "NotYetSaid$Answer") (gW_of (lwAt_mem (i := 107) _ (by decide +kernel)) rfl)) hE.2.2.1.1 hE.1 hP wsOf_D hS (fun q h => Nat.le_trans hN h) h1 rfl (by omega) hc hs hd (fun q cA H1 hK hP hD hS => ?_)
  have e := tysK (k := []) (z := 2) hE.1 hK rfl
  rw [← e] at hP hD
  exact k q H1 hP hD hS
end SWs
section Mna
variable {X : mX} {b aS aV N0 : Nat} {dA : Nat → ClassId} {D : va_G} {r : pMT} {pc : Nat} {L st : List Value} {h : mH}
theorem mn_outer (c : ClassId) (N h0 : Nat) : ∀ i, Jvm.Free.Multi.outerC c N h0 i = arrV c N (fun j => if j < i then .ref (h0 + 1 + j) else .null)
  | 0 => arrV_new c N .null
  | i + 1 => by
    show (Jvm.Free.Multi.outerC c N h0 i).setSlot i (.ref (h0 + 1 + i)) = _
    rw [mn_outer c N h0 i, arrV_store]
    congr 1
    funext j
    unfold updV
    dsimp only
    by_cases hj : j = i
    · rw [if_pos hj, if_pos (by omega), hj]
    · rw [if_neg hj]
      by_cases hl : j < i
      · rw [if_pos hl, if_pos (by omega)]
      · rw [if_neg hl, if_neg (by omega)]
theorem mn_len {n k : Nat} : (hMN h n k).length = h.length + 1 + n := by
  unfold hMN
  rw [List.length_append, List.length_cons, List.length_replicate]
  omega
theorem mn_rep (n k : Nat) : tot (List.replicate n (.inl (0, k, .inl (fun _ => 0)) : mE)) = n * k := by
  induction n with
  | zero => simp [tot]
  | succ n ih =>
    rw [List.replicate_succ]
    unfold tot at ih ⊢
    rw [List.map_cons, List.sum_cons, ih, Nat.succ_mul]
    show k + n * k = n * k + k
    omega
theorem mn_tot {n k : Nat} : tot (hMN h n k) = tot h + (n + n * k) := by
  have e := mn_rep n k
  unfold hMN
  unfold tot at e ⊢
  rw [List.map_append, List.sum_append, List.map_cons, List.sum_cons, e]
  rfl
theorem mn_at {n k i : Nat} {e : mE} (he : (hMN h n k)[i]? = some e) : h[i]? = some e ∨ (i = h.length ∧ e = .inl (3, n, .inr (.inr (.inr (.inr (fun i => if i < n then some (h.length + 1 + i) else none)))))) ∨ (∃ j, j < n ∧ i = h.length + 1 + j ∧ e = .inl (0, k, .inl (fun _ => 0))) := by
  unfold hMN at he
  by_cases h1 : i < h.length
  · rw [List.getElem?_append_left h1] at he
    exact Or.inl he
  · rw [List.getElem?_append_right (by omega)] at he
    by_cases h2 : i = h.length
    · rw [h2, Nat.sub_self] at he
      exact Or.inr (Or.inl ⟨h2, (Option.some.inj he).symm⟩)
    · obtain ⟨j, rfl⟩ : ∃ j, i = h.length + 1 + j := ⟨i - h.length - 1, by omega⟩
      rw [show h.length + 1 + j - h.length = j + 1 by omega, List.getElem?_cons_succ] at he
      have hj : j < n := by
        have := (List.getElem?_eq_some_iff.mp he).1
        rw [List.length_replicate] at this
        exact this
      rw [List.getElem?_replicate, if_pos hj] at he
      exact Or.inr (Or.inr ⟨j, hj, rfl, (Option.some.inj he).symm⟩)
set_option maxHeartbeats 4000000 in
theorem step_mna {i dims : Nat} {n k : Int32} {q : mG} (hd : decode r.2.1 pc = .ok (.multianewarray i dims, 4)) (hm : (bif ((Nat.beq r.2.2.2.2.2.1 2 && Nat.beq i 18) || (Nat.beq r.2.2.2.2.2.1 10 && Nat.beq i 39)) && Nat.beq dims 2 && !decide (n < 0) && !decide (k < 0) && Nat.ble n.toNatClampNeg 10000 && Nat.ble k.toNatClampNeg 10000
      then go (pc + 4, L, .ref h.length :: st, hMN h n.toNatClampNeg k.toNatClampNeg) else none) = go q) : SW X b aS aV N0 dA D r pc L (.int k :: .int n :: st) h q := by
  obtain ⟨h1, h2⟩ := bifs hm
  cases h2
  simp only [Bool.and_eq_true, Bool.or_eq_true, Bool.not_eq_true', decide_eq_false_iff_not, Nat.ble_eq] at h1
  obtain ⟨⟨⟨⟨⟨e1, e2⟩, hn0⟩, hk0⟩, hn1⟩, hk1⟩ := h1
  have e2 := natb e2
  subst e2
  have hcl : Jvm.Cond.classLink (pN r.2.2.2.2.2.1) i "[[I" ∈ gW := by
    rcases e1 with e1 | e1
    · rw [natb e1.1, natb e1.2]; exact gW_of (lwIs_mem (q := (269, _)) (by decide +kernel)) rfl
    · rw [natb e1.1, natb e1.2]; exact gW_of (lwIs_mem (q := (261, _)) (by decide +kernel)) rfl
  have hac : Jvm.Cond.arrayClass .int ∈ gW := gW_of (lwIs_mem (q := (146, _)) (by decide +kernel)) rfl
  refine ⟨by show h.length ≤ (hMN h _ _).length; rw [mn_len]; omega, by show tot h ≤ tot (hMN h _ _); rw [mn_tot]; omega, fun F n0 t0 hsz hn ht hc hs _ _ H locs ls hP hS hL kk => ?_⟩
  have hc : (hMN h n.toNatClampNeg k.toNatClampNeg).length ≤ n0 + _ := hc
  have hs : tot (hMN h n.toNatClampNeg k.toNatClampNeg) ≤ t0 + _ := hs
  rw [mn_len] at hc
  rw [mn_tot] at hs
  obtain ⟨hx, hb, -, -, ho, hts, hini, -, hE, hH, hN⟩ := F
  intro T hT Xs
  have hz : T.heap.size = N0 + h.length := by
    have z1 := Xs.heapSize
    rw [hsz] at z1
    rw [hT]
    rw [hT] at z1
    by_cases h0 : h.length = 0
    · have z3 := hS.1
      omega
    · obtain ⟨e0, he⟩ : ∃ e0, h[h.length - 1]? = some e0 := ⟨_, List.getElem?_eq_getElem (by omega)⟩
      have z3 : N0 + (h.length - 1) < H.size := (hP (h.length - 1) _ (wsOf_at (b := b) (aS := aS) (N0 := N0) (dA := dA) he)).lt
      omega
  subst hT
  obtain ⟨vm₁, cA, comp, hW, hfA, hfC, hO, hI, X', stp⟩ := Xs.multianewarray2F hx ho (index := i) (ty := .int) (hts _ hcl) (va_Oo.use hE.2.2.1.2) (hts _ hac) (g := F0 _ pc ls ((Value.int k :: .int n :: st).map (encV b aS N0))) rfl (by rw [hb]; exact hd) rfl hn0 hk0 (by omega) (by show k.toNatClampNeg * 4 ≤ _; omega) (by omega) rfl rfl (by omega) (by omega)
  have g3 : _ = some (dA 3) := (hE.1.2 3 (dA 3, .array .int) rfl).2
  have g0 : _ = some (dA 0) := (hE.1.2 0 (dA 0, .int) rfl).2
  have c3 : cA = dA 3 := Option.some.inj (hfA.symm.trans g3)
  have c0 : comp = dA 0 := Option.some.inj (hfC.symm.trans g0)
  obtain ⟨y1, y2, y3, y4⟩ := Jvm.Free.Multi.fill_facts (T.setVm vm₁) cA comp n.toNatClampNeg k.toNatClampNeg (defaultValue .int) n.toNatClampNeg
  have yo : ∀ a, a < T.heap.size → (Jvm.Free.Multi.fill (T.setVm vm₁) cA comp n.toNatClampNeg k.toNatClampNeg (defaultValue .int) n.toNatClampNeg).heap[a]? = T.heap[a]? := fun a ha => Jvm.Free.Multi.fill_old (T.setVm vm₁) cA comp n.toNatClampNeg k.toNatClampNeg (defaultValue .int) ha n.toNatClampNeg
  have yi := Jvm.Free.Multi.fill_inner (T.setVm vm₁) cA comp n.toNatClampNeg k.toNatClampNeg (defaultValue .int) n.toNatClampNeg
  have yz : (T.setVm vm₁).heap.size = N0 + h.length := hz
  rw [yz] at y1 y2 yi
  generalize Jvm.Free.Multi.fill (T.setVm vm₁) cA comp n.toNatClampNeg k.toNatClampNeg (defaultValue .int) n.toNatClampNeg = T1 at X' stp y1 y2 y3 y4 yo yi
  have hP1 : va_P D pcl (wsOf b aS N0 dA (hMN h n.toNatClampNeg k.toNatClampNeg)) T1.heap := by
    intro j q hq
    obtain ⟨e, he, rfl⟩ := wsOf_inv hq
    rcases mn_at he with h3 | ⟨rfl, rfl⟩ | ⟨j0, hj0, rfl, rfl⟩
    · have h4 := hP j _ (wsOf_at (b := b) (aS := aS) (N0 := N0) (dA := dA) h3)
      exact h4.kept (yo _ h4.lt)
    · show T1.heap[N0 + h.length]? = some (vp_cell (dA 3) _)
      rw [y2, mn_outer, c3]
      refine congrArg some (Eq.trans ?_ (show arrV (dA 3) n.toNatClampNeg (fun i => va_rf ((if i < n.toNatClampNeg then some (h.length + 1 + i) else none).map (N0 + ·))) = vp_cell (dA 3) (encA N0 (n.toNatClampNeg, .inr (.inr (.inr (.inr (fun i => if i < n.toNatClampNeg then some (h.length + 1 + i) else none)))))) from rfl))
      congr 1
      funext j
      by_cases hj : j < n.toNatClampNeg
      · rw [if_pos hj, if_pos hj]
        show Value.ref _ = Value.ref _
        rw [show N0 + h.length + 1 + j = N0 + (h.length + 1 + j) by omega]
      · rw [if_neg hj, if_neg hj]
        rfl
    · show T1.heap[N0 + (h.length + 1 + j0)]? = some (vp_cell (dA 0) _)
      have h5 := yi j0 hj0
      rw [show N0 + h.length + 1 + j0 = N0 + (h.length + 1 + j0) by omega] at h5
      rw [h5, c0]
      exact congrArg some (arrV_new (dA 0) k.toNatClampNeg (.int 0))
  have hS1 : va_S (fun q => N0 ≤ q) _ T1.heap locs := ⟨Nat.le_trans hS.1 (by rw [y1, hz]; omega), fun q h1 h2 => (yo q (Nat.lt_of_lt_of_le h1 hS.1)).trans (hS.2.1 q h1 h2), hS.2.2⟩
  have kW := @kk T1.heap locs ls hP1 hS1 hL
  have X2 := X'
  rw [show h.length - n0 + 1 + n.toNatClampNeg = (hMN h n.toNatClampNeg k.toNatClampNeg).length - n0 by rw [mn_len]; omega, show tot h - t0 + n.toNatClampNeg + n.toNatClampNeg * k.toNatClampNeg = tot (hMN h n.toNatClampNeg k.toNatClampNeg) - t0 by rw [mn_tot]; omega] at X2
  obtain ⟨t, a1, b1⟩ := kW T1 rfl X2
  rw [hz] at stp
  exact ⟨t, stp t a1, b1⟩
end Mna
theorem step_ok {X : mX} {b aS aV N0 : Nat} {dA : Nat → ClassId} {D : va_G} {r : pMT} {a pc : Nat} {L st : List Value} {h : mH} {i : Instr} {q : mG} (hd : decode r.2.1 pc = .ok (i, pil i) ∨ (psw i = true ∧ ∃ len, decode r.2.1 pc = .ok (i, len)))
    (hm : mstep X r.2.2.2.2.2.1 r.2.2.2.2.2.2.1 r.2.2.2.2.2.2.2 a pc L h i st = go q) : SW X b aS aV N0 dA D r pc L st h q := by
  unfold mstep at hm
  split at hm
  · cases hm; exact SW.p (fun hx hb ho hts hL k => lv_iconst hx hb (hdn hd rfl) rfl k)
  · cases hm; exact SW.p (fun hx hb ho hts hL k => lv_bipush hx hb (hdn hd rfl) rfl k)
  · cases hm; exact SW.p (fun hx hb ho hts hL k => lv_sipush hx hb (hdn hd rfl) rfl k)
  · cases hm; exact SW.p (fun hx hb ho hts hL k => lv_lconst hx hb (hdn hd rfl) rfl k)
  · cases hm; exact SW.p (fun hx hb ho hts hL k => lv_null hx hb (hdn hd rfl) k)
  · exact step_ldc (hdn hd rfl) hm
  · exact step_ldcw (hdn hd rfl) hm
  · exact step_ldc2 (hdn hd rfl) hm
  · obtain ⟨x, h1, h2⟩ := Option.bind_eq_some_iff.mp hm; cases h2; exact SW.p (fun hx hb ho hts hL k => lv_iload hx hb (hdn hd rfl) (hL.get (mldI_ok h1) rfl) k)
  · obtain ⟨x, h1, h2⟩ := Option.bind_eq_some_iff.mp hm; cases h2; exact SW.p (fun hx hb ho hts hL k => lv_iload_n hx hb (hdn hd rfl) rfl (hL.get (mldI_ok h1) rfl) k)
  · obtain ⟨x, h1, h2⟩ := Option.bind_eq_some_iff.mp hm; cases h2; exact SW.p (fun hx hb ho hts hL k => lv_lload hx hb (hdn hd rfl) (hL.get (mldL_ok h1) rfl) k)
  · obtain ⟨x, h1, h2⟩ := Option.bind_eq_some_iff.mp hm; cases h2; exact SW.p (fun hx hb ho hts hL k => lv_lload_n hx hb (hdn hd rfl) rfl (hL.get (mldL_ok h1) rfl) k)
  · obtain ⟨x, h1, h2⟩ := Option.bind_eq_some_iff.mp hm; cases h2; obtain ⟨h1, h3⟩ := mldA_ok h1; exact SW.p (fun hx hb ho hts hL k => step_aload hx hb (hdn hd rfl) hL h1 h3 k)
  · obtain ⟨x, h1, h2⟩ := Option.bind_eq_some_iff.mp hm; cases h2; obtain ⟨h1, h3⟩ := mldA_ok h1; exact SW.p (fun hx hb ho hts hL k => step_aload_n hx hb (hdn hd rfl) hL h1 h3 k)
  · obtain ⟨L1, h1, h2⟩ := Option.bind_eq_some_iff.mp hm; cases h2; exact SW.l (fun hx hb hL k => lv_istore hx hb (hdn hd rfl) hL.1 (hL.put rfl rfl h1).1 rfl (fun _ g => k _ ((hL.put rfl rfl h1).2 _ g)))
  · obtain ⟨L1, h1, h2⟩ := Option.bind_eq_some_iff.mp hm; cases h2; exact SW.l (fun hx hb hL k => lv_istore_n hx hb (hdn hd rfl) rfl hL.1 (hL.put rfl rfl h1).1 rfl (fun _ g => k _ ((hL.put rfl rfl h1).2 _ g)))
  · obtain ⟨h0, hm⟩ := bifs hm; obtain ⟨L1, h1, h2⟩ := Option.bind_eq_some_iff.mp hm; cases h2; exact SW.l (fun hx hb hL k => step_astore hx hb (hdn hd rfl) hL h0 h1 k)
  · obtain ⟨h0, hm⟩ := bifs hm; obtain ⟨L1, h1, h2⟩ := Option.bind_eq_some_iff.mp hm; cases h2; exact SW.l (fun hx hb hL k => step_astore_n hx hb (hdn hd rfl) hL h0 h1 k)
  · obtain ⟨L1, h1, h2⟩ := Option.bind_eq_some_iff.mp hm; cases h2; exact SW.l (fun hx hb hL k => lv_lstore hx hb (hdn hd rfl) hL.1 (hL.putl h1).1 rfl (fun _ g => k _ ((hL.putl h1).2 _ g)))
  · obtain ⟨L1, h1, h2⟩ := Option.bind_eq_some_iff.mp hm; cases h2; exact SW.l (fun hx hb hL k => lv_lstore_n hx hb (hdn hd rfl) rfl hL.1 (hL.putl h1).1 rfl (fun _ g => k _ ((hL.putl h1).2 _ g)))
  · exact step_iinc (hdn hd rfl) hm
  · obtain ⟨h0, hm⟩ := bifn hm; cases hm; exact SW.p (fun hx hb ho hts hL k => lv_dup hx hb (hdn hd rfl) (by rw [encV_cat]; exact cat1 h0) k)
  · obtain ⟨h0, hm⟩ := bifn hm; obtain ⟨h1, hm⟩ := bifn hm; cases hm; exact SW.p (fun hx hb ho hts hL k => lv_dup2_11 hx hb (hdn hd rfl) (by rw [encV_cat]; exact cat1 h0) (by rw [encV_cat]; exact cat1 h1) k)
  · obtain ⟨h0, hm⟩ := bifn hm; cases hm; exact SW.p (fun hx hb ho hts hL k => lv_pop hx hb (hdn hd rfl) (by rw [encV_cat]; exact cat1 h0) k)
  · cases hm; exact SW.p (fun hx hb ho hts hL k => lv_iadd hx hb (hdn hd rfl) k)
  · cases hm; exact SW.p (fun hx hb ho hts hL k => lv_isub hx hb (hdn hd rfl) k)
  · cases hm; exact SW.p (fun hx hb ho hts hL k => lv_imul hx hb (hdn hd rfl) k)
  · split at hm; · cases hm
    next h0 => cases hm; exact SW.p (fun hx hb ho hts hL k => lv_idiv hx hb (hdn hd rfl) h0 k)
  · split at hm; · cases hm
    next h0 => cases hm; exact SW.p (fun hx hb ho hts hL k => lv_irem hx hb (hdn hd rfl) h0 k)
  · cases hm; exact SW.p (fun hx hb ho hts hL k => lv_iand hx hb (hdn hd rfl) k)
  · cases hm; exact SW.p (fun hx hb ho hts hL k => lv_ior hx hb (hdn hd rfl) k)
  · cases hm; exact SW.p (fun hx hb ho hts hL k => lv_ixor hx hb (hdn hd rfl) k)
  · cases hm; exact SW.p (fun hx hb ho hts hL k => lv_ishl hx hb (hdn hd rfl) k)
  · cases hm; exact SW.p (fun hx hb ho hts hL k => lv_ishr hx hb (hdn hd rfl) k)
  · cases hm; exact SW.p (fun hx hb ho hts hL k => lv_iushr hx hb (hdn hd rfl) rfl k)
  · cases hm; exact SW.p (fun hx hb ho hts hL k => lv_ladd hx hb (hdn hd rfl) k)
  · cases hm; exact SW.p (fun hx hb ho hts hL k => lv_lmul hx hb (hdn hd rfl) k)
  · cases hm; exact SW.p (fun hx hb ho hts hL k => lv_land hx hb (hdn hd rfl) k)
  · cases hm; exact SW.p (fun hx hb ho hts hL k => lv_lor hx hb (hdn hd rfl) k)
  · cases hm; exact SW.p (fun hx hb ho hts hL k => lv_lshl hx hb (hdn hd rfl) rfl k)
  · cases hm; exact SW.p (fun hx hb ho hts hL k => lv_lshr hx hb (hdn hd rfl) rfl k)
  · cases hm; exact SW.p (fun hx hb ho hts hL k => lv_lushr hx hb (hdn hd rfl) rfl k)
  · cases hm; exact SW.p (fun hx hb ho hts hL k => W.lcmp hx hb (hdn hd rfl) k)
  · cases hm; exact SW.p (fun hx hb ho hts hL k => lv_i2l hx hb (hdn hd rfl) rfl k)
  · cases hm; exact SW.p (fun hx hb ho hts hL k => lv_l2i hx hb (hdn hd rfl) rfl k)
  · cases hm; exact SW.p (fun hx hb ho hts hL k => lv_i2b hx hb (hdn hd rfl) rfl k)
  · cases hm; exact SW.p (fun hx hb ho hts hL k => lv_i2s hx hb (hdn hd rfl) rfl k)
  · obtain ⟨t, h1, h2⟩ := Option.bind_eq_some_iff.mp hm; cases h2; exact SW.p (fun hx hb ho hts hL k => lv_goto hx hb (hdn hd rfl) (mtg_ok h1) k)
  · exact SW.br hm (fun t ht => ⟨fun hc => SW.p (fun hx hb ho hts hL k => lv_icmp_eq hx hb (hdn hd rfl) ht (fun _ => k) (fun g => absurd hc g)), fun hc => SW.p (fun hx hb ho hts hL k => lv_icmp_eq hx hb (hdn hd rfl) ht (fun g => absurd g hc) (fun _ => k))⟩)
  · exact SW.br hm (fun t ht => ⟨fun hc => SW.p (fun hx hb ho hts hL k => lv_icmp_ne hx hb (hdn hd rfl) ht (fun _ => k) (fun g => absurd g hc)), fun hc => SW.p (fun hx hb ho hts hL k => lv_icmp_ne hx hb (hdn hd rfl) ht (fun g => absurd g hc) (fun _ => k))⟩)
  · exact SW.br hm (fun t ht => ⟨fun hc => SW.p (fun hx hb ho hts hL k => lv_icmp_lt hx hb (hdn hd rfl) ht (fun _ => k) (fun g => absurd hc g)), fun hc => SW.p (fun hx hb ho hts hL k => lv_icmp_lt hx hb (hdn hd rfl) ht (fun g => absurd g hc) (fun _ => k))⟩)
  · exact SW.br hm (fun t ht => ⟨fun hc => SW.p (fun hx hb ho hts hL k => lv_icmp_ge hx hb (hdn hd rfl) ht (fun _ => k) (fun g => absurd hc g)), fun hc => SW.p (fun hx hb ho hts hL k => lv_icmp_ge hx hb (hdn hd rfl) ht (fun g => absurd g hc) (fun _ => k))⟩)
  · exact SW.br hm (fun t ht => ⟨fun hc => SW.p (fun hx hb ho hts hL k => lv_icmp_gt hx hb (hdn hd rfl) ht (fun _ => k) (fun g => absurd hc g)), fun hc => SW.p (fun hx hb ho hts hL k => lv_icmp_gt hx hb (hdn hd rfl) ht (fun g => absurd g hc) (fun _ => k))⟩)
  · exact SW.br hm (fun t ht => ⟨fun hc => SW.p (fun hx hb ho hts hL k => lv_icmp_le hx hb (hdn hd rfl) ht (fun _ => k) (fun g => absurd hc g)), fun hc => SW.p (fun hx hb ho hts hL k => lv_icmp_le hx hb (hdn hd rfl) ht (fun g => absurd g hc) (fun _ => k))⟩)
  · exact SW.br hm (fun t ht => ⟨fun hc => SW.p (fun hx hb ho hts hL k => lv_if_eq hx hb (hdn hd rfl) ht (fun _ => k) (fun g => absurd hc g)), fun hc => SW.p (fun hx hb ho hts hL k => lv_if_eq hx hb (hdn hd rfl) ht (fun g => absurd g hc) (fun _ => k))⟩)
  · exact SW.br hm (fun t ht => ⟨fun hc => SW.p (fun hx hb ho hts hL k => lv_if_ne hx hb (hdn hd rfl) ht (fun _ => k) (fun g => absurd g hc)), fun hc => SW.p (fun hx hb ho hts hL k => lv_if_ne hx hb (hdn hd rfl) ht (fun g => absurd g hc) (fun _ => k))⟩)
  · exact SW.br hm (fun t ht => ⟨fun hc => SW.p (fun hx hb ho hts hL k => lv_if_lt hx hb (hdn hd rfl) ht (fun _ => k) (fun g => absurd hc g)), fun hc => SW.p (fun hx hb ho hts hL k => lv_if_lt hx hb (hdn hd rfl) ht (fun g => absurd g hc) (fun _ => k))⟩)
  · exact SW.br hm (fun t ht => ⟨fun hc => SW.p (fun hx hb ho hts hL k => lv_if_ge hx hb (hdn hd rfl) ht (fun _ => k) (fun g => absurd hc g)), fun hc => SW.p (fun hx hb ho hts hL k => lv_if_ge hx hb (hdn hd rfl) ht (fun g => absurd g hc) (fun _ => k))⟩)
  · exact SW.br hm (fun t ht => ⟨fun hc => SW.p (fun hx hb ho hts hL k => lv_if_gt hx hb (hdn hd rfl) ht (fun _ => k) (fun g => absurd hc g)), fun hc => SW.p (fun hx hb ho hts hL k => lv_if_gt hx hb (hdn hd rfl) ht (fun g => absurd g hc) (fun _ => k))⟩)
  · exact SW.br hm (fun t ht => ⟨fun hc => SW.p (fun hx hb ho hts hL k => lv_if_le hx hb (hdn hd rfl) ht (fun _ => k) (fun g => absurd hc g)), fun hc => SW.p (fun hx hb ho hts hL k => lv_if_le hx hb (hdn hd rfl) ht (fun g => absurd g hc) (fun _ => k))⟩)
  · exact step_ifnull (hdn hd rfl) hm
  · exact step_ifnonnull (hdn hd rfl) hm
  · exact step_tsw hd hm
  · exact step_lsw hd hm
  · exact step_getf (hdn hd rfl) hm
  · exact step_putf (hdn hd rfl) hm
  · exact step_alen (hdn hd rfl) hm
  · cases hm; exact step_slen (hdn hd rfl)
  · exact step_iald (hdn hd rfl) hm
  · exact step_sld (hdn hd rfl) hm
  · exact step_bald (hdn hd rfl) hm
  · exact step_iast (hdn hd rfl) hm
  · exact step_bast (hdn hd rfl) hm
  · exact step_aald (hdn hd rfl) hm
  · exact step_aast (hdn hd rfl) hm
  · exact step_new (hdn hd rfl) hm
  · exact step_newi (hdn hd rfl) hm
  · exact step_newb (hdn hd rfl) hm
  · exact step_newq (hdn hd rfl) hm
  · exact step_mna (hdn hd rfl) hm
  · cases hm
