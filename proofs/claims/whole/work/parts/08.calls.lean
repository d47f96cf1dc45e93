/-! calls -/
def ws_of (r : pMT) : List Jvm.Cond := .code r.2.2.1 r.2.1 r.2.2.2.1 r.2.2.2.2.1 :: gW
def rm_of (d mc ms : Nat) : Room := { frames := d + 1, cells := mc, slots := ms, locals := 64 * (d + 1) }
def PcB (X : mX) (b aS aV N0 : Nat) (dA : Nat → ClassId) (D : va_G) (h : mH) (U : State) : Prop :=
  va_P D pcl (wsOf b aS N0 dA h) U.heap ∧ U.heap.size = N0 + h.length ∧ EnS dA D aS U ∧ EnH X b aS aV N0 U U.heap
def QcM (b aS N0 : Nat) (dA : Nat → ClassId) (D : va_G) (rv : List Value) (hf : mH) : Array Value → State → Outcome → State → Prop := fun _ st o t =>
  o = .returned (rv.map (encV b aS N0)).head? ∧ va_P D pcl (wsOf b aS N0 dA hf) t.heap ∧ va_F (fun q => N0 ≤ q) st t
def retAt (r : pMT) (pc : Nat) (rv : List Value) : Prop :=
  (rv = [] ∧ r.2.2.2.2.1 = none ∧ decode r.2.1 pc = .ok (.return_, 1)) ∨
  ∃ v, rv = [v] ∧ okRet r.2.2.2.2.1 v = true ∧ ((isI v = true ∧ decode r.2.1 pc = .ok (.ireturn, 1)) ∨ (isLg v = true ∧ decode r.2.1 pc = .ok (.lreturn, 1)) ∨ (isRf v = true ∧ decode r.2.1 pc = .ok (.areturn, 1)))
/-- what a run of n steps says of the true machine -/
def Snd (X : mX) (b aS aV N0 : Nat) (dA : Nat → ClassId) (D : va_G) (n : Nat) : Prop :=
  ∀ {d y pc : Nat} {L st : List Value} {h : mH} {rv : List Value} {hf : mH}, runF X n d y pc L st h = some (rv, hf) → (h.length ≤ hf.length ∧ tot h ≤ tot hf ∧ rv.length ≤ 1) ∧
  ∀ r, pMth y = some r → ∀ {p : Program} {l : Launch} {e : Env} {R : Room} {s : State} {m : MethodId} {args : Array Value} {below : List Frame} {meth : Method} {c : Code} {Q : State → Prop},
    Fx X b aS aV N0 dA D r p s m args meth c → ∀ (n0 t0 : Nat), s.heap.size = N0 + n0 → n0 ≤ h.length → t0 ≤ tot h → hf.length ≤ n0 + R.cells → tot hf ≤ t0 + R.slots → d + 1 ≤ R.frames → 64 * (d + 1) ≤ R.locals →
    (∀ {pc : Nat} {H : Heap} {locs : List Loc} {ls : Array Slot}, retAt r pc rv → va_P D pcl (wsOf b aS N0 dA hf) H → va_S (fun q => N0 ≤ q) s.heap H locs → W p l e R s m args below meth c H locs (hf.length - n0) (tot hf - t0) Q (F0 m pc ls (rv.map (encV b aS N0)))) →
    ∀ {H : Heap} {locs : List Loc} {ls : Array Slot}, va_P D pcl (wsOf b aS N0 dA h) H → va_S (fun q => N0 ≤ q) s.heap H locs → LR b aS N0 r.2.2.2.2.2.2.1 r.2.2.2.1 L ls →
      W p l e R s m args below meth c H locs (h.length - n0) (tot h - t0) Q (F0 m pc ls (st.map (encV b aS N0)))
section Calls
variable {X : mX} {b aS aV N0 : Nat} {dA : Nat → ClassId} {D : va_G}
theorem rMth {y : Nat} {r : pMT} (h : pMth y = some r) : (∀ pc, pck r.2.1 pc (r.1 pc) = true) ∧ (y ≠ LAWN → ∃ q, okRw q r = true) := pMth_ok y r h
theorem rOk {y : Nat} {r : pMT} (h : pMth y = some r) (hy : y ≠ LAWN) : Jvm.Cond.code r.2.2.1 r.2.1 r.2.2.2.1 r.2.2.2.2.1 ∈ gW ∧ Jvm.Cond.initialized r.2.2.1.cls ∈ gW ∧ plainName r.2.2.1.cls = true ∧ r.2.2.1.cls ≠ "java/lang/invoke/MethodHandle" ∧ r.2.2.1.cls ≠ "java/lang/invoke/VarHandle" ∧ pN r.2.2.2.2.2.1 = r.2.2.1.cls ∧ r.2.2.2.1 ≤ 40 ∧ (r.2.2.2.2.2.2.2 = true → r.2.2.1.name = "<init>") ∧ (r.2.2.1.name = "<init>" → r.2.2.2.2.1 = none) := by
  obtain ⟨q, hq⟩ := (rMth h).2 hy
  unfold okRw at hq
  simp only [Bool.and_eq_true, decide_eq_true_eq, Nat.ble_eq, Bool.or_eq_true, Bool.not_eq_true', decide_eq_false_iff_not] at hq
  obtain ⟨⟨⟨⟨⟨⟨⟨⟨q1, q2⟩, q3⟩, q4⟩, q5⟩, q6⟩, q7⟩, q8⟩, q9⟩ := hq
  refine ⟨gW_of (lwIs_mem q1) rfl, gW_of (lwIs_mem q2) rfl, q3, q4, q5, q6, q7, fun h => ?_, fun h => ?_⟩
  · rcases q8 with q8 | q8
    · rw [h] at q8; cases q8
    · exact q8
  · rcases q9 with q9 | q9
    · exact absurd h q9
    · exact Option.isNone_iff_eq_none.mp q9
theorem dec_of {y pc a : Nat} {r : pMT} {i : Instr} (h : pMth y = some r) (hp : r.1 pc = some (i, a)) : decode r.2.1 pc = .ok (i, pil i) ∨ (psw i = true ∧ ∃ len, decode r.2.1 pc = .ok (i, len)) := by
  have h1 := (rMth h).1 pc
  rw [hp] at h1
  unfold pck at h1
  dsimp only at h1
  rw [Bool.or_eq_true, Bool.and_eq_true, decide_eq_true_eq] at h1
  rcases h1 with h1 | ⟨h1, h2⟩
  · exact Or.inl h1
  · refine Or.inr ⟨h1, ?_⟩
    split at h2
    · next j len hj => rw [decide_eq_true_eq] at h2; rw [h2]; exact ⟨len, hj⟩
    · cases h2
/-- a method's contract out of a run -/
theorem met_of {n d y : Nat} {vs L : List Value} {h : mH} {r : pMT} {rv : List Value} {hf : mH} (IH : Snd X b aS aV N0 dA D n) (hr : pMth y = some r) (hy : y ≠ LAWN) (hL : entL r.2.2.2.1 r.2.2.2.2.2.2.1 vs = some L) (hrun : runF X n d y 0 L [] h = some (rv, hf)) (l : Launch) :
    Met l r.2.2.1 (ws_of r) (rm_of d (hf.length - h.length) (tot hf - tot h)) (va_Pc (vs.map (encV b aS N0)) (PcB X b aS aV N0 dA D h)) (QcM b aS N0 dA D rv hf) (hf.length - h.length) (tot hf - tot h) (fun q => N0 ≤ q) := by
  obtain ⟨o1, o2, o3, o4, o5, o6, o7, o8, o9⟩ := rOk hr hy
  obtain ⟨⟨m1, m2, m3⟩, key⟩ := IH hrun
  refine Met.ofW (cc := r.2.1) (maxL := r.2.2.2.1) (ret := r.2.2.2.2.1) o3 rfl ?_
  intro p e s m args below meth c s₁ B hml hv
  obtain ⟨rfl, hP, hsz, hE, hH⟩ := hv
  have hts : ∀ w ∈ gW, w.before _ s = true := fun w hw => atoms_spec (ws := ws_of r) B.pre w (List.mem_cons_of_mem _ hw)
  have F : Fx X b aS aV N0 dA D r p s m (vs.map (encV b aS N0)).toArray meth c :=
    ⟨B.exec, B.bytes, B.returns, hml, by rw [o6]; exact findClass_of_methodNamed B.named, hts, fun h => by rw [(name_of_methodNamed B.named B.method).1]; exact o8 h, B.notSynchronized, hE, hH, by rw [hsz]; exact Nat.le_add_right _ _⟩
  have hlk := B.notSynchronized
  rw [lg_entry_eq]
  have k := @key r hr p l e (rm_of d (hf.length - h.length) (tot hf - tot h)) s m (vs.map (encV b aS N0)).toArray below meth c (MQ below (QcM b aS N0 dA D rv hf) (vs.map (encV b aS N0)).toArray s (hf.length - h.length) (tot hf - tot h) (fun q => N0 ≤ q)) F h.length (tot h) hsz (Nat.le_refl _) (Nat.le_refl _) (by show hf.length ≤ h.length + (hf.length - h.length); omega) (by show tot hf ≤ tot h + (tot hf - tot h); omega) (Nat.le_refl _) (Nat.le_refl _) ?_ s.heap [] _ hP va_S.rf (LR.entry hL)
  · rw [Nat.sub_self, Nat.sub_self] at k
    exact k
  · intro pc H locs ls hret hP hS
    obtain ⟨hx, hb, hrt, -⟩ := F
    rcases hret with ⟨rfl, hn, hd⟩ | ⟨v, rfl, hok, hd⟩
    · rw [hn] at hrt
      exact W.vret hx hb hrt (fun t ht hW => ⟨rfl, by rw [ht]; exact hP, hS.F ht⟩) hS.2.2 hd
    · have hq : ∀ t : State, t.heap = H → s.WarmedH t.vm → QcM b aS N0 dA D [v] hf (vs.map (encV b aS N0)).toArray s (.returned (some (encV b aS N0 v))) t := fun t ht hW => ⟨rfl, by rw [ht]; exact hP, hS.F ht⟩
      unfold okRet at hok
      split at hok
      · next x hrr =>
        rw [hrr] at hrt
        rcases hd with ⟨-, hd⟩ | ⟨g, -⟩ | ⟨g, -⟩
        · exact W.iret hx hb hrt hq hS.2.2 hd
        · cases g
        · cases g
      · next x hrr =>
        rw [hrr] at hrt
        rw [Bool.or_eq_true, decide_eq_true_eq, decide_eq_true_eq] at hok
        rcases hd with ⟨-, hd⟩ | ⟨g, -⟩ | ⟨g, -⟩
        · exact W.zret hx hb hrt (by rcases hok with rfl | rfl <;> decide +kernel) hq hS.2.2 hd
        · cases g
        · cases g
      · next x hrr =>
        rw [hrr] at hrt
        rcases hd with ⟨g, -⟩ | ⟨-, hd⟩ | ⟨g, -⟩
        · cases g
        · exact W.lret hx hb hrt hq hS.2.2 hd
        · cases g
      · next x z hrr =>
        rw [hrr] at hrt
        rcases hd with ⟨g, -⟩ | ⟨g, -⟩ | ⟨-, hd⟩
        · cases g
        · cases g
        · exact W.aret hx hb hrt (Or.inl ⟨_, rfl⟩) (Or.inr ⟨_, rfl⟩) hq hS.2.2 hd
      · next x hrr =>
        rw [hrr] at hrt
        rcases hd with ⟨g, -⟩ | ⟨g, -⟩ | ⟨-, hd⟩
        · cases g
        · cases g
        · exact W.aret hx hb hrt (Or.inl ⟨_, rfl⟩) (Or.inl rfl) hq hS.2.2 hd
      · cases hok
theorem PcB_blind {h : mH} {av : List Value} : FrameBlind (va_Pc av (PcB X b aS aV N0 dA D h)) := by
  intro a U g mk q
  obtain ⟨q0, q1, q2, q3, q4⟩ := q
  exact ⟨q0, q1, q2, EnS.same (u := U) rfl q3, EnH.move (s := U) (U := U.calling g mk a) (locs := []) (by rw [q2]; exact Nat.le_add_right _ _) (Vm.Alike.refl U.vm) va_S.rf q4⟩
section CW
variable {p : Program} {l : Launch} {e : Env} {R : Room} {s : State} {m : MethodId} {args : Array Value} {below : List Frame} {meth : Method} {c : Code} {Q : State → Prop} {H : Heap} {locs : List Loc} {cells slots mc ms pc : Nat} {ls : Array Slot} {rest st0 : List Value} {rv : List Value} {hf h : mH} {av : Array Value}
/-- behind a call -/
theorem call_go (hr : va_Run p l e R s m args below meth c H locs cells slots mc ms (F0 m pc ls st0) rest (QcM b aS N0 dA D rv hf av) (fun q => N0 ≤ q)) (hS : va_S (fun q => N0 ≤ q) s.heap H locs) (hrv : rv.length ≤ 1)
    (kk : ∀ {H1 : Heap} {locs1 : List Loc}, va_P D pcl (wsOf b aS N0 dA hf) H1 → va_S (fun q => N0 ≤ q) s.heap H1 locs1 → W p l e R s m args below meth c H1 locs1 (cells + mc) (slots + ms) Q (F0 m (pc + 3) ls (rv.map (encV b aS N0) ++ rest))) : W p l e R s m args below meth c H locs cells slots Q (F0 m pc ls st0) := by
  intro T hT X
  obtain ⟨v, st₀, t, T', L, h0, X', hL, e1, e2, ⟨hv, hp, hz, hk⟩, st⟩ := hr T hT X
  cases hv
  rw [h0] at hz hk
  obtain ⟨t2, a1, b1⟩ := kk (H1 := T'.heap) (locs1 := locs ++ L) (by rw [e1]; exact hp) ⟨Nat.le_trans hS.1 (by rw [e1]; exact hz), fun q h1 h2 => by rw [e1, hk q (Nat.lt_of_lt_of_le h1 hS.1) h2]; exact hS.2.1 q h1 h2, fun q hq => by
      rcases List.mem_append.mp hq with h | h
      · exact hS.2.2 q h
      · exact hL q h⟩ T' rfl X'
  refine ⟨t2, st t2 ?_, b1⟩
  match rv, hrv with
  | [], _ => exact a1
  | [v], _ => exact a1
theorem size_of {n0 t0 : Nat} {T : State} (hT : T.heap = H) (Xs : Stand p l e R s m args below meth c T locs (h.length - n0) (tot h - t0)) (hsz : s.heap.size = N0 + n0) (hn : n0 ≤ h.length) (hP : va_P D pcl (wsOf b aS N0 dA h) H) (hS : va_S (fun q => N0 ≤ q) s.heap H locs) : H.size = N0 + h.length := by
  have z1 := Xs.heapSize
  rw [hT, hsz] at z1
  have z2 := hS.1
  rw [hsz] at z2
  by_cases h0 : h.length = 0
  · omega
  · obtain ⟨e0, he⟩ : ∃ e0, h[h.length - 1]? = some e0 := ⟨_, List.getElem?_eq_getElem (by omega)⟩
    have z3 := (hP _ _ (wsOf_at (b := b) (aS := aS) (N0 := N0) (dA := dA) he)).lt
    dsimp only at z3
    omega
end CW
end Calls
