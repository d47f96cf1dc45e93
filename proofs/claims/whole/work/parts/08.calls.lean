/-! calls -/
def ws_of (r : pMT) : List Jvm.Cond := .code r.2.2.1 r.2.1 r.2.2.2.1 r.2.2.2.2.1 :: gW
def rm_of (d mc ms : Nat) : Room := { frames := d + 4, cells := mc, slots := ms, locals := 64 * (d + 2) }
def PcB (X : mX) (b aS aV N0 : Nat) (dA : Nat → ClassId) (D : va_G) (h : mH) (U : State) : Prop :=
  va_P D pcl (wsOf b aS N0 dA h) U.heap ∧ U.heap.size = N0 + h.length ∧ EnS dA D aS U ∧ EnH X b aS aV N0 U U.heap
def QcM (b aS N0 : Nat) (dA : Nat → ClassId) (D : va_G) (rv : List Value) (hf : mH) : Array Value → State → Outcome → State → Prop := fun _ st o t =>
  o = .returned (rv.map (encV b aS N0)).head? ∧ va_P D pcl (wsOf b aS N0 dA hf) t.heap ∧ va_F (fun q => N0 ≤ q) st t
def retAt (r : pMT) (pc : Nat) (rv : List Value) : Prop :=
  (rv = [] ∧ r.2.2.2.2.1 = none ∧ decode r.2.1 pc = .ok (.return_, 1)) ∨
  ∃ v, rv = [v] ∧ okRet r.2.2.2.2.1 v = true ∧ ((isI v = true ∧ decode r.2.1 pc = .ok (.ireturn, 1)) ∨ (isLg v = true ∧ decode r.2.1 pc = .ok (.lreturn, 1)) ∨ (isRf v = true ∧ decode r.2.1 pc = .ok (.areturn, 1)))
/-- what a run of n steps says of the true machine -/
def Snd (X : mX) (b aS aV N0 : Nat) (dA : Nat → ClassId) (D : va_G) (n : Nat) : Prop :=
  ∀ {d y pc : Nat} {L st : List Value} {h : mH} {rv : List Value} {hf : mH}, runF X n d y pc L st h = some (rv, hf) → (h.length ≤ hf.length ∧ tot h ≤ tot hf ∧ rv.length ≤ 1) ∧
  ∀ r, pMth y = some r → ∀ {p : Program} {l : Launch} {e : Env} {R : Room} {s : State} {m : MethodId} {args : Array Value} {below : List Frame} {meth : Method} {c : Code} {Q : State → Prop},
    Fx X b aS aV N0 dA D r p s m args meth c → ∀ (n0 t0 : Nat), s.heap.size = N0 + n0 → n0 ≤ h.length → t0 ≤ tot h → hf.length ≤ n0 + R.cells → tot hf ≤ t0 + R.slots → d + 4 ≤ R.frames → 64 * (d + 2) ≤ R.locals →
    (∀ {pc : Nat} {H : Heap} {locs : List Loc} {ls : Array Slot}, retAt r pc rv → va_P D pcl (wsOf b aS N0 dA hf) H → va_S (fun q => N0 ≤ q) s.heap H locs → W p l e R s m args below meth c H locs (hf.length - n0) (tot hf - t0) Q (F0 m pc ls (rv.map (encV b aS N0)))) →
    ∀ {H : Heap} {locs : List Loc} {ls : Array Slot}, va_P D pcl (wsOf b aS N0 dA h) H → va_S (fun q => N0 ≤ q) s.heap H locs → LR b aS N0 r.2.2.2.2.2.2.1 r.2.2.2.1 L ls →
      W p l e R s m args below meth c H locs (h.length - n0) (tot h - t0) Q (F0 m pc ls (st.map (encV b aS N0)))
section Calls
variable {X : mX} {b aS aV N0 : Nat} {dA : Nat → ClassId} {D : va_G}
theorem rMth {y : Nat} {r : pMT} (h : pMth y = some r) : (∀ pc, pck r.2.1 pc (r.1 pc) = true) ∧ (y ≠ LAWN → ∃ q, okRw q r = true) := pMth_ok y r h
theorem rOk {y : Nat} {r : pMT} (h : pMth y = some r) (hy : y ≠ LAWN) : Jvm.Cond.code r.2.2.1 r.2.1 r.2.2.2.1 r.2.2.2.2.1 ∈ gW ∧ Jvm.Cond.initialized r.2.2.1.cls ∈ gW ∧ plainName r.2.2.1.cls = true ∧ r.2.2.1.cls ≠ "java/lang/invoke/MethodHandle" ∧ r.2.2.1.cls ≠ "java/lang/invoke/VarHandle" ∧ pN r.2.2.2.2.2.1 = r.2.2.1.cls ∧ r.2.2.2.1 ≤ 40 ∧ (r.2.2.2.2.2.2.2 = true → r.2.2.1.name = "<init>") ∧ (r.2.2.1.name = "<init>" → r.2.2.2.2.1 = none) := by
  obtain ⟨q, hq⟩ := (rMth h).2 hy
  unfold okRw at hq
  simp only [Bool.and_eq_true, decide_eq_true_eq, Nat.ble_eq, Bool.or_eq_true, Bool.not_eq_true', decide_eq_false_iff_not] at hq
  obtain ⟨⟨⟨⟨⟨⟨⟨⟨q1, q2⟩, q3⟩, q4⟩, q5⟩, q6⟩, q7⟩, q8⟩, q9⟩ := hq
  refine ⟨gW_of (lwIs_mem q1) rfl, gW_of (lwIs_mem q2) rfl, q3, q4, q5, q6, q7, fun h => ?_, fun h => ?_⟩
  · rcases q8 with q8 | q8
    · rw [h] at q8; cases q8
    · exact q8
  · rcases q9 with q9 | q9
    · exact absurd h q9
    · exact Option.isNone_iff_eq_none.mp q9
theorem dec_of {y pc a : Nat} {r : pMT} {i : Instr} (h : pMth y = some r) (hp : r.1 pc = some (i, a)) : decode r.2.1 pc = .ok (i, pil i) ∨ (psw i = true ∧ ∃ len, decode r.2.1 pc = .ok (i, len)) := by
  have h1 := (rMth h).1 pc
  rw [hp] at h1
  unfold pck at h1
  dsimp only at h1
  rw [Bool.or_eq_true, Bool.and_eq_true, decide_eq_true_eq] at h1
  rcases h1 with h1 | ⟨h1, h2⟩
  · exact Or.inl h1
  · refine Or.inr ⟨h1, ?_⟩
    split at h2
    · next j len hj => rw [decide_eq_true_eq] at h2; rw [h2]; exact ⟨len, hj⟩
    · cases h2
/-- a method's contract out of a run -/
theorem met_of {n d y : Nat} {vs L : List Value} {h : mH} {r : pMT} {rv : List Value} {hf : mH} (IH : Snd X b aS aV N0 dA D n) (hr : pMth y = some r) (hy : y ≠ LAWN) (hL : entL r.2.2.2.1 r.2.2.2.2.2.2.1 vs = some L) (hrun : runF X n d y 0 L [] h = some (rv, hf)) (l : Launch) :
    Met l r.2.2.1 (ws_of r) (rm_of d (hf.length - h.length) (tot hf - tot h)) (va_Pc (vs.map (encV b aS N0)) (PcB X b aS aV N0 dA D h)) (QcM b aS N0 dA D rv hf) (hf.length - h.length) (tot hf - tot h) (fun q => N0 ≤ q) := by
  obtain ⟨o1, o2, o3, o4, o5, o6, o7, o8, o9⟩ := rOk hr hy
  obtain ⟨⟨m1, m2, m3⟩, key⟩ := IH hrun
  refine Met.ofW (cc := r.2.1) (maxL := r.2.2.2.1) (ret := r.2.2.2.2.1) o3 rfl ?_
  intro p e s m args below meth c s₁ B hml hv
  obtain ⟨rfl, hP, hsz, hE, hH⟩ := hv
  have hts : ∀ w ∈ gW, w.before _ s = true := fun w hw => atoms_spec (ws := ws_of r) B.pre w (List.mem_cons_of_mem _ hw)
  have F : Fx X b aS aV N0 dA D r p s m (vs.map (encV b aS N0)).toArray meth c :=
    ⟨B.exec, B.bytes, B.returns, hml, by rw [o6]; exact findClass_of_methodNamed B.named, hts, fun h => by rw [(name_of_methodNamed B.named B.method).1]; exact o8 h, B.notSynchronized, hE, hH, by rw [hsz]; exact Nat.le_add_right _ _⟩
  have hlk := B.notSynchronized
  rw [lg_entry_eq]
  have k := @key r hr p l e (rm_of d (hf.length - h.length) (tot hf - tot h)) s m (vs.map (encV b aS N0)).toArray below meth c (MQ below (QcM b aS N0 dA D rv hf) (vs.map (encV b aS N0)).toArray s (hf.length - h.length) (tot hf - tot h) (fun q => N0 ≤ q)) F h.length (tot h) hsz (Nat.le_refl _) (Nat.le_refl _) (by show hf.length ≤ h.length + (hf.length - h.length); omega) (by show tot hf ≤ tot h + (tot hf - tot h); omega) (Nat.le_refl _) (Nat.le_refl _) ?_ s.heap [] _ hP va_S.rf (LR.entry hL)
  · rw [Nat.sub_self, Nat.sub_self] at k
    exact k
  · intro pc H locs ls hret hP hS
    obtain ⟨hx, hb, hrt, -⟩ := F
    rcases hret with ⟨rfl, hn, hd⟩ | ⟨v, rfl, hok, hd⟩
    · rw [hn] at hrt
      exact W.vret hx hb hrt (fun t ht hW => ⟨rfl, by rw [ht]; exact hP, hS.F ht⟩) hS.2.2 hd
    · have hq : ∀ t : State, t.heap = H → s.WarmedH t.vm → QcM b aS N0 dA D [v] hf (vs.map (encV b aS N0)).toArray s (.returned (some (encV b aS N0 v))) t := fun t ht hW => ⟨rfl, by rw [ht]; exact hP, hS.F ht⟩
      unfold okRet at hok
      split at hok
      · next x hrr =>
        rw [hrr] at hrt
        rcases hd with ⟨-, hd⟩ | ⟨g, -⟩ | ⟨g, -⟩
        · exact W.iret hx hb hrt hq hS.2.2 hd
        · cases g
        · cases g
      · next x hrr =>
        rw [hrr] at hrt
        rw [Bool.or_eq_true, decide_eq_true_eq, decide_eq_true_eq] at hok
        rcases hd with ⟨-, hd⟩ | ⟨g, -⟩ | ⟨g, -⟩
        · exact W.zret hx hb hrt (by rcases hok with rfl | rfl <;> decide +kernel) hq hS.2.2 hd
        · cases g
        · cases g
      · next x hrr =>
        rw [hrr] at hrt
        rcases hd with ⟨g, -⟩ | ⟨-, hd⟩ | ⟨g, -⟩
        · cases g
        · exact W.lret hx hb hrt hq hS.2.2 hd
        · cases g
      · next x z hrr =>
        rw [hrr] at hrt
        rcases hd with ⟨g, -⟩ | ⟨g, -⟩ | ⟨-, hd⟩
        · cases g
        · cases g
        · exact W.aret hx hb hrt (Or.inl ⟨_, rfl⟩) (Or.inr ⟨_, rfl⟩) hq hS.2.2 hd
      · next x hrr =>
        rw [hrr] at hrt
        rcases hd with ⟨g, -⟩ | ⟨g, -⟩ | ⟨-, hd⟩
        · cases g
        · cases g
        · exact W.aret hx hb hrt (Or.inl ⟨_, rfl⟩) (Or.inl rfl) hq hS.2.2 hd
      · cases hok
theorem PcB_blind {h : mH} {av : List Value} : FrameBlind (va_Pc av (PcB X b aS aV N0 dA D h)) := by
  intro a U g mk q
  obtain ⟨q0, q1, q2, q3, q4⟩ := q
  exact ⟨q0, q1, q2, EnS.same (u := U) rfl q3, EnH.move (s := U) (U := U.calling g mk a) (locs := []) (by rw [q2]; exact Nat.le_add_right _ _) (Vm.Alike.refl U.vm) va_S.rf q4⟩
section CW
variable {p : Program} {l : Launch} {e : Env} {R : Room} {s : State} {m : MethodId} {args : Array Value} {below : List Frame} {meth : Method} {c : Code} {Q : State → Prop} {H : Heap} {locs : List Loc} {cells slots mc ms pc : Nat} {ls : Array Slot} {rest st0 : List Value} {rv : List Value} {hf h : mH} {av : Array Value}
/-- behind a call -/
theorem call_go (hr : va_Run p l e R s m args below meth c H locs cells slots mc ms (F0 m pc ls st0) rest (QcM b aS N0 dA D rv hf av) (fun q => N0 ≤ q)) (hS : va_S (fun q => N0 ≤ q) s.heap H locs) (hrv : rv.length ≤ 1)
    (kk : ∀ {H1 : Heap} {locs1 : List Loc}, va_P D pcl (wsOf b aS N0 dA hf) H1 → va_S (fun q => N0 ≤ q) s.heap H1 locs1 → W p l e R s m args below meth c H1 locs1 (cells + mc) (slots + ms) Q (F0 m (pc + 3) ls (rv.map (encV b aS N0) ++ rest))) : W p l e R s m args below meth c H locs cells slots Q (F0 m pc ls st0) := by
  intro T hT X
  obtain ⟨v, st₀, t, T', L, h0, X', hL, e1, e2, ⟨hv, hp, hz, hk⟩, st⟩ := hr T hT X
  cases hv
  rw [h0] at hz hk
  obtain ⟨t2, a1, b1⟩ := kk (H1 := T'.heap) (locs1 := locs ++ L) (by rw [e1]; exact hp) ⟨Nat.le_trans hS.1 (by rw [e1]; exact hz), fun q h1 h2 => by rw [e1, hk q (Nat.lt_of_lt_of_le h1 hS.1) h2]; exact hS.2.1 q h1 h2, fun q hq => by
      rcases List.mem_append.mp hq with h | h
      · exact hS.2.2 q h
      · exact hL q h⟩ T' rfl X'
  refine ⟨t2, st t2 ?_, b1⟩
  match rv, hrv with
  | [], _ => exact a1
  | [v], _ => exact a1
theorem size_of {n0 t0 : Nat} {T : State} (hT : T.heap = H) (Xs : Stand p l e R s m args below meth c T locs (h.length - n0) (tot h - t0)) (hsz : s.heap.size = N0 + n0) (hn : n0 ≤ h.length) (hP : va_P D pcl (wsOf b aS N0 dA h) H) (hS : va_S (fun q => N0 ≤ q) s.heap H locs) : H.size = N0 + h.length := by
  have z1 := Xs.heapSize
  rw [hT, hsz] at z1
  have z2 := hS.1
  rw [hsz] at z2
  by_cases h0 : h.length = 0
  · omega
  · obtain ⟨e0, he⟩ : ∃ e0, h[h.length - 1]? = some e0 := ⟨_, List.getElem?_eq_getElem (by omega)⟩
    have z3 := (hP _ _ (wsOf_at (b := b) (aS := aS) (N0 := N0) (dA := dA) he)).lt
    dsimp only at z3
    omega
end CW
end Calls
section CallOk
variable {X : mX} {b aS aV N0 : Nat} {dA : Nat → ClassId} {D : va_G}
theorem mgo_ok {y pc : Nat} {vs rest : List Value} {q : mC} (h : mgo y vs pc rest = some (.inr (.inr q))) : ∃ r L, pMth y = some r ∧ mok rest = true ∧ entL r.2.2.2.1 r.2.2.2.2.2.2.1 vs = some L ∧ q = (y, L, pc + 3, rest) := by
  unfold mgo at h
  split at h
  · cases h
  · next r hr =>
    obtain ⟨h1, h2⟩ := bifs h
    obtain ⟨L, h3, h4⟩ := Option.bind_eq_some_iff.mp h2
    cases h4
    exact ⟨r, L, hr, h1, h3, rfl⟩
theorem mgo_no {y pc : Nat} {vs rest : List Value} {q : mG} (h : mgo y vs pc rest = go q) : False := by
  unfold mgo at h
  split at h
  · cases h
  · obtain ⟨h1, h2⟩ := bifs h
    obtain ⟨L, h3, h4⟩ := Option.bind_eq_some_iff.mp h2
    cases h4
theorem mtk_ok {n : Nat} {st : List Value} {q : List Value × List Value} (h : mtk n st = some q) : st = q.1.reverse ++ q.2 ∧ q.1.length = n := by
  unfold mtk at h
  obtain ⟨h1, h2⟩ := bifs h
  cases h2
  rw [Nat.ble_eq] at h1
  refine ⟨?_, ?_⟩
  · simp
  · simp; omega
theorem mok_enc {rest : List Value} (h : mok rest = true) : ((rest.map (encV b aS N0)).map fun v => v.category).sum ≤ 8 := by
  unfold mok at h
  rw [Nat.ble_eq] at h
  rw [List.map_map]
  have e : ((fun v : Value => v.category) ∘ encV b aS N0) = fun v => v.category := by funext v; exact encV_cat v
  rw [e]
  exact h
theorem head_ok {α : Type} {l : List α} {t : α} (h : l.head? = some t) : t ∈ l := List.mem_of_head? h
section CB
variable {p : Program} {l : Launch} {e : Env} {R : Room} {s : State} {m : MethodId} {args : Array Value} {below : List Frame} {meth : Method} {c : Code} {Q : State → Prop}
theorem cB {d mc ms nargs y idx : Nat} {own : String} {r : pMT} (hr : pMth y = some r) (hy : y ≠ LAWN) (hts : ∀ w ∈ gW, w.before args s = true) (hfr : d + 5 ≤ R.frames) (hlo : 64 * (d + 3) ≤ R.locals) (hl : Jvm.Cond.methodLink own idx r.2.2.1 ∈ gW)
    (hdesc : (parseMethodDescriptor r.2.2.1.desc).map (fun d => d.parameters.length) = some nargs) : CallB R s args own idx r.2.2.1 r.2.1 r.2.2.2.1 r.2.2.2.2.1 (ws_of r) (rm_of d mc ms) mc ms nargs := by
  obtain ⟨o1, o2, o3, o4, o5, o6, o7, o8, o9⟩ := rOk hr hy
  have hG : GoodIn gW (ws_of r) := gW_in fun w hw => by
    rcases List.mem_cons.mp hw with rfl | hw
    · exact o1
    · exact hw
  refine ⟨rfl, rfl, ?_, ?_, pay_in hts hG, List.mem_cons_self, hts _ o1, hts _ o2, ⟨o4, o5⟩, fun sig hs => ?_, hts _ hl⟩
  · show d + 4 + 1 ≤ R.frames; omega
  · show 8 + (r.2.2.2.1 + 11) + 64 * (d + 2) ≤ R.locals; omega
  · rw [hs] at hdesc
    exact (Option.some.inj hdesc).symm
theorem cN {d mc ms nargs y idx : Nat} {own host : String} {r : pMT} (hr : pMth y = some r) (hy : y ≠ LAWN) (hts : ∀ w ∈ gW, w.before args s = true) (hfr : d + 5 ≤ R.frames) (hlo : 64 * (d + 3) ≤ R.locals) (hl : (Jvm.Cond.methodLinkNest own idx r.2.2.1 host).before args s = true)
    (hdesc : (parseMethodDescriptor r.2.2.1.desc).map (fun d => d.parameters.length) = some nargs) : va_CN R s args own idx r.2.2.1 host r.2.1 r.2.2.2.1 r.2.2.2.2.1 (ws_of r) (rm_of d mc ms) mc ms nargs := by
  obtain ⟨o1, o2, o3, o4, o5, o6, o7, o8, o9⟩ := rOk hr hy
  have hG : GoodIn gW (ws_of r) := gW_in fun w hw => by
    rcases List.mem_cons.mp hw with rfl | hw
    · exact o1
    · exact hw
  refine ⟨⟨rfl, rfl, ?_, ?_, pay_in hts hG, List.mem_cons_self⟩, hts _ o1, hts _ o2, ⟨o4, o5⟩, fun sig hs => ?_, hl⟩
  · show d + 4 + 1 ≤ R.frames; omega
  · show 8 + (r.2.2.2.1 + 11) + 64 * (d + 2) ≤ R.locals; omega
  · rw [hs] at hdesc
    exact (Option.some.inj hdesc).symm
theorem preS {h : mH} {vs : List Value} {n0 : Nat} {H : Heap} {locs : List Loc} (hN : N0 ≤ s.heap.size) (hE : EnS dA D aS s) (hH : EnH X b aS aV N0 s s.heap) (hz : H.size = N0 + h.length) (hP : va_P D pcl (wsOf b aS N0 dA h) H) (hS : va_S (fun q => N0 ≤ q) s.heap H locs) :
    ∀ U : State, U.heap = H → s.WarmedH U.vm → va_Pc (vs.map (encV b aS N0)) (PcB X b aS aV N0 dA D h) (vs.map (encV b aS N0)).toArray U := fun U hU hW =>
  ⟨rfl, by rw [hU]; exact hP, by rw [hU]; exact hz, hE.warm hW, by rw [hU]; exact hH.move hN hW.alike hS⟩
end CB
def opI (op idx : Nat) : Instr := match op with | 0 => .invokestatic idx | 1 => .invokespecial idx | _ => .invokevirtual idx
theorem call_fin {p : Program} {l : Launch} {e : Env} {R : Room} {s : State} {m : MethodId} {args : Array Value} {below : List Frame} {meth : Method} {c : Code} {Q : State → Prop} {H : Heap} {locs : List Loc} {n0 t0 pc pc' : Nat} {ls : Array Slot} {rest st0 : List Value} {rv : List Value} {h1 h : mH} {av : Array Value}
    (hn : n0 ≤ h.length) (ht : t0 ≤ tot h) (g1 : h.length ≤ h1.length) (g2 : tot h ≤ tot h1) (g3 : rv.length ≤ 1) (hpc : pc' = pc + 3) (hS : va_S (fun q => N0 ≤ q) s.heap H locs)
    (k : ∀ {H : Heap} {locs : List Loc}, va_P D pcl (wsOf b aS N0 dA h1) H → va_S (fun q => N0 ≤ q) s.heap H locs → W p l e R s m args below meth c H locs (h1.length - n0) (tot h1 - t0) Q (F0 m pc' ls ((rv ++ rest).map (encV b aS N0))))
    (hr : va_Run p l e R s m args below meth c H locs (h.length - n0) (tot h - t0) (h1.length - h.length) (tot h1 - tot h) (F0 m pc ls st0) (rest.map (encV b aS N0)) (QcM b aS N0 dA D rv h1 av) (fun q => N0 ≤ q)) :
    W p l e R s m args below meth c H locs (h.length - n0) (tot h - t0) Q (F0 m pc ls st0) := by
  refine call_go hr hS g3 (fun hP hS => ?_)
  have k1 := k hP hS
  rw [List.map_append, hpc] at k1
  rw [show h.length - n0 + (h1.length - h.length) = h1.length - n0 by omega, show tot h - t0 + (tot h1 - tot h) = tot h1 - t0 by omega]
  exact k1
theorem cO_t {c : pCT} (hO : cOk c = true) : ∀ t ∈ c.2.2.2.2.2.2, t.2 ≠ LAWN := by
  intro t ht
  unfold cOk at hO
  simp only [Bool.and_eq_true] at hO
  have h := List.all_eq_true.mp hO.1.1.1.1.1.1 t ht
  intro e
  rw [e] at h
  cases h
theorem cO_1 {c : pCT} (hO : cOk c = true) (hk : (Nat.ble c.2.2.1 3 || Nat.beq c.2.2.1 5) = true) : ∃ t, c.2.2.2.2.2.2 = [t] ∧ mnOf t.2 = c.2.2.2.2.1 := by
  unfold cOk at hO
  simp only [Bool.and_eq_true] at hO
  have h := hO.1.1.1.1.1.2
  rw [hk] at h
  dsimp only [cond_true] at h
  split at h
  · next t e => exact ⟨t, e, of_decide_eq_true h⟩
  · cases h
theorem cO_2 {c : pCT} (hO : cOk c = true) (hk : (Nat.beq c.2.2.1 2 || Nat.beq c.2.2.1 3) = true) : c.2.2.2.2.1.name = "<init>" := by
  unfold cOk at hO
  simp only [Bool.and_eq_true] at hO
  have h := hO.1.1.1.1.2
  rw [hk] at h
  exact of_decide_eq_true h
theorem cO_5 {c : pCT} (hO : cOk c = true) (hk : Nat.beq c.2.2.1 5 = true) {t : Nat × Nat} (ht : c.2.2.2.2.2.2 = [t]) : scN t.1 = c.2.2.2.2.1.cls := by
  unfold cOk at hO
  simp only [Bool.and_eq_true] at hO
  have h := hO.1.1.1.2
  rw [hk, ht] at h
  exact of_decide_eq_true h
theorem cO_7 {c : pCT} (hO : cOk c = true) (hk : Nat.beq c.2.2.1 7 = true) : ∃ t, c.2.2.2.2.2.2 = [t] ∧ mnOf t.2 = ⟨c.2.2.2.2.2.1, c.2.2.2.2.1.name, c.2.2.2.2.1.desc⟩ ∧ c.2.2.2.2.1.name ≠ "<init>" := by
  unfold cOk at hO
  simp only [Bool.and_eq_true] at hO
  have h := hO.1.1.2
  rw [hk] at h
  dsimp only [cond_true] at h
  split at h
  · next t e => rw [Bool.and_eq_true] at h; exact ⟨t, e, of_decide_eq_true h.1, of_decide_eq_true h.2⟩
  · cases h
theorem cO_6 {c : pCT} (hO : cOk c = true) (hk : Nat.beq c.2.2.1 6 = true) : c.2.2.2.2.2.1 = "NotYetSaid$Answer" ∧ (c.2.2.2.2.1.name, c.2.2.2.2.1.desc) ∈ anM := by
  unfold cOk at hO
  simp only [Bool.and_eq_true] at hO
  have h := hO.1.2
  rw [hk] at h
  dsimp only [cond_true] at h
  rw [Bool.and_eq_true] at h
  exact ⟨of_decide_eq_true h.1, of_decide_eq_true h.2⟩
theorem cO_d {c : pCT} (hO : cOk c = true) (hk : (Nat.ble c.2.2.1 3 || Nat.ble 5 c.2.2.1 && Nat.ble c.2.2.1 7) = true) : (parseMethodDescriptor c.2.2.2.2.1.desc).map (fun d => d.parameters.length) = some c.2.2.2.1 := by
  unfold cOk at hO
  simp only [Bool.and_eq_true] at hO
  have h := hO.2
  rw [hk] at h
  exact of_decide_eq_true h
theorem mnOf_eq {y : Nat} {r : pMT} (h : pMth y = some r) : mnOf y = r.2.2.1 := by unfold mnOf; rw [h]
theorem lookup_mem {ci y : Nat} : ∀ {l : List (Nat × Nat)}, l.lookup ci = some y → (ci, y) ∈ l
  | [], h => by cases h
  | (a, c) :: l, h => by
    rw [List.lookup_cons] at h
    split at h
    · next e => cases h; rw [eq_of_beq e]; exact List.mem_cons_self
    · exact List.mem_cons_of_mem _ (lookup_mem h)
theorem anM_decl {dA : Nat → ClassId} {D : va_G} {aS : Nat} {args : Array Value} {s : State} (hts : ∀ w ∈ gW, w.before args s = true) (hE : EnS dA D aS s) {n d : String} (h : (n, d) ∈ anM) : va_Decl s ⟨"NotYetSaid$Answer", n, d⟩ := by
  have dcl : ∀ (i : Nat) (x : MethodName), lwAt i = some (.declares x) → va_Decl s x := fun i x hi => va_Decl.abs (hE.2.1 _ (lwAt_mem _ hi) rfl)
  simp only [anM, List.mem_cons, Prod.mk.injEq, List.not_mem_nil, or_false] at h
  rcases h with ⟨rfl, rfl⟩ | ⟨rfl, rfl⟩ | ⟨rfl, rfl⟩ | ⟨rfl, rfl⟩ | ⟨rfl, rfl⟩ | ⟨rfl, rfl⟩
  · exact dcl 497 _ (by decide +kernel)
  · exact dcl 1087 _ (by decide +kernel)
  · exact dcl 1113 _ (by decide +kernel)
  · exact dcl 1152 _ (by decide +kernel)
  · exact dcl 1149 _ (by decide +kernel)
  · exact va_Decl.of (hts _ (gW_of (lwAt_mem (i := 536) _ (by decide +kernel)) rfl)) (hts (.code ⟨"NotYetSaid$Answer", "takeOver", "(LNotYetSaid$Answer;)V"⟩ prog_2_method_3_code 2 none) (gW_of (lwAt_mem (i := 543) _ (by decide +kernel)) rfl))
section VSU2
variable {p : Program} {l : Launch} {e : Env} {R : Room} {s : State} {m : MethodId} {args : Array Value} {below : List Frame} {meth : Method} {c : Code}
/-- super.m(..), where the superclass has the method from its own -/
theorem callSU2 {T : State} {locs : List Loc} {cells slots : Nat} (X : Stand p l e R s m args below meth c T locs cells slots) (hexec : p.tables.exec = Jvm.exec) {own : String} {index : Nat} {x y : MethodName} {bytes : ByteArray} {maxL : Nat} {ret : Option FieldType}
    (hown : s.vm.findClass own = some m.cls) (hlink : (Cond.methodLink own index x).before args s = true) (hsame : (Cond.sameMethod x.cls y.cls x.name x.desc).before args s = true) (hsup : (Cond.superclass own x.cls).before args s = true)
    (hup : x.cls = y.cls ∨ (Cond.superclass x.cls y.cls).before args s = true) (hxy : y = ⟨y.cls, x.name, x.desc⟩)
    (hinst : (Cond.instanceMethod y).before args s = true) (hcode : (Cond.code y bytes maxL ret).before args s = true) (hno : x.name ≠ "<init>")
    {W : Nat} {Pre : Pt → Array Value → Prop} {Post : Pt → Array Value → Option Value → Pt → Prop} (hK : Back l R p e below s args y 3 W Pre Post)
    {b : Addr} {cellB : Cell} {kB : Class} (hcell : T.heap[b]? = some cellB) (hobj : cellB.vm.isStatics = false) (hkB : s.vm.classes[cellB.cls]? = some kB)
    {g : JFrame} (hg : g.method = m) (hsize : g.locals.size = c.maxLocals) {argsL rest : List Value} (hlen : ∀ sig, parseMethodDescriptor x.desc = some sig → argsL.length = sig.parameters.length)
    (hstack : g.stack = argsL.reverse ++ .ref b :: rest) (hW : 2 * g.monitorRoom + (rest.map fun v => v.category).sum ≤ W) (hdg : decode c.code g.pc = .ok (.invokespecial index, 3))
    (hpre : ∀ vm₁, s.WarmedH vm₁ → Pre ⟨T.setVm vm₁, locs, cells, slots⟩ (Value.ref b :: argsL).toArray) :
    ∃ (v : Option Value) (vm₁ : Vm) (B : Pt), s.WarmedH vm₁ ∧ Stand p l e R s m args below meth c B.U B.locs B.cells B.slots ∧ Post ⟨T.setVm vm₁, locs, cells, slots⟩ (Value.ref b :: argsL).toArray v B ∧
      ∀ target, Steps p.tables e below (B.U.setTop { g with pc := g.pc + 3, stack := v.toList ++ rest }) target → Steps p.tables e below (T.setTop g) target := by
  obtain ⟨mk, methM, hnamed, hmethM, hstM, habM⟩ := Cond.instanceMethod_spec hinst
  obtain ⟨methM', cM, hmethM', -, -, -, -, -, -, hsigM⟩ := Cond.code_spec hnamed hcode
  cases hmethM.symm.trans hmethM'
  obtain ⟨ps, dk, kp, hps, hdk, hkp, hsuper, -, -, hnid⟩ := Cond.superclass_spec hown hsup
  have hn : s.methodNamed? ⟨y.cls, x.name, x.desc⟩ = some mk := by rw [← hxy]; exact hnamed
  have hmc := findClass_of_methodNamed hnamed
  have hsub : s.vm.isSubclass ps mk.cls = true := by
    rcases hup with hup | hup
    · rw [hup] at hps
      have hpm : ps = mk.cls := Option.some.inj (hps.symm.trans hmc)
      rw [hpm]
      simp [Vm.isSubclass, Vm.isSubclassAux]
    · obtain ⟨p2, k2, kp2, q1, q2, -, q4, -⟩ := Cond.superclass_spec hps hup
      have hpm : p2 = mk.cls := Option.some.inj (q1.symm.trans hmc)
      have hpos : 0 < s.vm.classes.size := by
        have := (Array.getElem?_eq_some_iff.mp q2).1
        omega
      obtain ⟨z, hz⟩ : ∃ z, s.vm.classes.size = z + 1 := ⟨s.vm.classes.size - 1, by omega⟩
      unfold Vm.isSubclass
      rw [hz]
      simp [Vm.isSubclassAux, q2, q4, hpm]
  obtain ⟨vm₁, X₁, hstep₁⟩ := X.invokespecialUp hexec hown hlink hsame hn hmethM hstM habM hno hdk hnid hps hsuper hsub (a := b) (cell := cellB) hcell
    (fun z h => by rw [h] at hobj; cases hobj) hkB (g := g) hg (argsL := argsL) (rest := rest) (hlen _ (by rw [hxy] at hsigM; exact hsigM)) hstack hdg
  obtain ⟨v, B, X', hpost, hsteps⟩ := hK m meth c ⟨T.setVm vm₁, locs, cells, slots⟩ { g with stack := rest } (.invokespecial index) mk (Value.ref b :: argsL).toArray X₁ hg hsize hdg hW (X₁.named hnamed) (hpre vm₁ X₁.warmed)
  exact ⟨v, vm₁, B, X₁.warmed, X', hpost, fun target h => hstep₁ _ (by rw [doInvoke_state]; exact hsteps.trans h)⟩
theorem runSU2 {x y : MethodName} {bytes cc : ByteArray} {maxL nL mc ms n index : Nat} {ret : Option FieldType} {ws : List Cond} {rm : Room} {Pc : Array Value → State → Prop} {Qc : Array Value → State → Outcome → State → Prop} {free : Addr → Prop} {Ts : List Cond} {own C : String} {cC : ClassId} {b : Addr} {As rest : List Value} {g : JFrame} {H : Heap} {locs : List Loc} {cells slots : Nat}
    (hat : ClassAt s C cC) (S : CallFix p m c cc nL s args Ts own) (hM : Met l y ws rm Pc Qc mc ms free)
    (cw : (rm.cells = mc ∧ rm.slots = ms ∧ rm.frames + 1 ≤ R.frames ∧ 8 + (maxL + 11) + rm.locals ≤ R.locals ∧ (∀ w ∈ ws, ∀ (a' : Array Value) (U : State), s.WarmedH U.vm → w.before a' U = true) ∧ Cond.code y bytes maxL ret ∈ ws) ∧
      (Cond.methodLink own index x).before args s = true ∧ (Cond.sameMethod x.cls y.cls x.name x.desc).before args s = true ∧ (Cond.superclass own x.cls).before args s = true ∧ (x.cls = y.cls ∨ (Cond.superclass x.cls y.cls).before args s = true) ∧ y = ⟨y.cls, x.name, x.desc⟩ ∧ (Cond.instanceMethod y).before args s = true ∧ (Cond.initialized y.cls).before args s = true ∧ (Cond.code y bytes maxL ret).before args s = true ∧ x.name ≠ "<init>" ∧ (∀ sig, parseMethodDescriptor x.desc = some sig → n = sig.parameters.length))
    (hp : PreV s H C b Pc As)
    (hg : g.method = m) (hn : As.length = n) (hsize : g.locals.size = nL) (hstack : g.stack = As.reverse ++ .ref b :: rest) (hW : 2 * g.monitorRoom + (rest.map fun v => v.category).sum ≤ 8) (hdg : decode cc g.pc = .ok (.invokespecial index, 3)) (hf : cells + mc ≤ R.cells ∧ slots + ms ≤ R.slots) :
    va_Run p l e R s m args below meth c H locs cells slots mc ms g rest (Qc (Value.ref b :: As).toArray) (free) := by
  obtain ⟨⟨hrc, hrs, hfr, hlo, hws, hcw⟩, hl1, hl2, hl3, hl4, hl5, hl6, hini, hcode, hno, hlen⟩ := cw
  have hK : Back l R p e below s args y 3 8 (PreOf R mc ms Pc) (PostOf Qc mc ms free) := back_of (bytes := bytes) (maxL := maxL) (ret := ret) hM hp.1 hrc hrs hfr hlo hws hcw (fun a' U hW => word_at hW (Or.inl (by first | rfl | simp [Cond.onTables, Cond.keeps, Cond.steady])) hini)
  obtain ⟨hx, hb, hml, ho, -⟩ := S
  obtain ⟨-, ⟨cellB, hcB, hoB, hclB⟩, hPc⟩ := hp
  obtain ⟨hfc, kB, hkB, -⟩ := hat
  cases hfc.symm.trans hclB
  intro T hT X
  obtain ⟨v, vm₁, ⟨U', l2, c2, s2⟩, hW₁, X', ⟨g', mk, t, L, e1, e2, hq, h1, hL, h2, h3⟩, st⟩ := callSU2 X hx (bytes := bytes) (maxL := maxL) (ret := ret) ho hl1 hl2 hl3 hl4 hl5 hl6 hcode hno hK (by rw [hT]; exact hcB) hoB hkB hg (hsize.trans hml.symm) (argsL := As) (rest := rest) (fun sig h => hn.trans (hlen sig h)) hstack hW (by rw [hb]; exact hdg)
    (fun vm₁ hW₁ => ⟨hf.1, hf.2, hPc (T.setVm vm₁) hT hW₁⟩)
  dsimp only [Pt.U, Pt.locs, Pt.cells, Pt.slots] at X' e1 e2 h1 h2 h3 st
  subst h1; subst h2; subst h3
  exact ⟨v, (T.setVm vm₁).calling g' mk (Value.ref b :: As).toArray, t, U', L, hT, X', hL, e1, e2, hq, st⟩
end VSU2
/-- a call of a method of ours, kind by kind -/
theorem call_arm {X : mX} {b aS aV N0 : Nat} {dA : Nat → ClassId} {D : va_G} {n d idx op pc : Nat} {st vs rest : List Value} {h : mH} {q : mC} {r : pMT} {cr : pCT} {L : List Value} (IH : Snd X b aS aV N0 dA D n) (hd : decode r.2.1 pc = .ok (opI op idx, 3)) (e1 : cr.1 = r.2.2.2.2.2.1) (e2 : cr.2.1 = idx)
    (hW : ∀ w ∈ cWs cr, w ∈ lw_tbl) (hO : cOk cr = true) (hst : st = vs.reverse ++ rest) (hlen : vs.length = cr.2.2.2.1)
    (hm : mcK cr pc L h vs rest = some (.inr (.inr q)))
    (hop : mop cr.2.2.1 op = true) {rv : List Value} {h1 : mH} (hrun : runF X n d q.1 0 q.2.1 [] h = some (rv, h1))
    {p : Program} {l : Launch} {e : Env} {R : Room} {s : State} {m : MethodId} {args : Array Value} {below : List Frame} {meth : Method} {c : Code} {Q : State → Prop}
    (F : Fx X b aS aV N0 dA D r p s m args meth c) (n0 t0 : Nat) (hsz : s.heap.size = N0 + n0) (hn : n0 ≤ h.length) (ht : t0 ≤ tot h) (hc : h1.length ≤ n0 + R.cells) (hs : tot h1 ≤ t0 + R.slots) (hfr : d + 5 ≤ R.frames) (hlo : 64 * (d + 3) ≤ R.locals)
    {H : Heap} {locs : List Loc} {ls : Array Slot} (hz : H.size = N0 + h.length) (hP : va_P D pcl (wsOf b aS N0 dA h) H) (hS : va_S (fun q => N0 ≤ q) s.heap H locs) (hL : LR b aS N0 r.2.2.2.2.2.2.1 r.2.2.2.1 L ls)
    (k : ∀ {H : Heap} {locs : List Loc}, va_P D pcl (wsOf b aS N0 dA h1) H → va_S (fun q => N0 ≤ q) s.heap H locs → W p l e R s m args below meth c H locs (h1.length - n0) (tot h1 - t0) Q (F0 m q.2.2.1 ls ((rv ++ q.2.2.2).map (encV b aS N0)))) :
    W p l e R s m args below meth c H locs (h.length - n0) (tot h - t0) Q (F0 m pc ls (st.map (encV b aS N0))) := by
  obtain ⟨⟨g1, g2, g3⟩, -⟩ := IH hrun
  obtain ⟨hx, hb, hrt, hml, ho, hts, hini, hlk, hE, hH, hN⟩ := id F
  have hCF : CallFix p m c r.2.1 r.2.2.2.1 s args gW (pN cr.1) := ⟨hx, hb, hml, by rw [e1]; exact ho, hts⟩
  have hroom : (h.length - n0) + (h1.length - h.length) ≤ R.cells ∧ (tot h - t0) + (tot h1 - tot h) ≤ R.slots := ⟨by omega, by omega⟩
  have pS : ∀ vs : List Value, ∀ U : State, U.heap = H → s.WarmedH U.vm → va_Pc (vs.map (encV b aS N0)) (PcB X b aS aV N0 dA D h) (vs.map (encV b aS N0)).toArray U := fun vs U hU hW =>
    ⟨rfl, by rw [hU]; exact hP, by rw [hU]; exact hz, hE.warm hW, by rw [hU]; exact hH.move hN hW.alike hS⟩
  unfold mcK at hm
  split at hm
  · -- static
    next kd rs hk =>
    obtain ⟨t, htt, hm⟩ := Option.bind_eq_some_iff.mp hm
    obtain ⟨r1, L1, q1, q2, q3, rfl⟩ := mgo_ok hm
    obtain ⟨t', e3, e4⟩ := cO_1 hO (by rw [hk]; rfl)
    have htm := List.mem_of_head? htt
    have hy := cO_t hO t htm
    rw [e3] at htm
    have : t = t' := by simpa using htm
    subst this
    rw [mnOf_eq q1] at e4
    have hd1 : decode r.2.1 pc = .ok (.invokestatic cr.2.1, 3) := by
      rw [hk] at hop
      have := natb hop
      subst this
      rw [e2]; exact hd
    have w1 : Jvm.Cond.methodLink (pN cr.1) cr.2.1 r1.2.2.1 ∈ gW := gW_of (hW _ (by unfold cWs; rw [hk, ← e4]; exact List.mem_cons_self)) rfl
    have w2 : Jvm.Cond.static r1.2.2.1 ∈ gW := gW_of (hW _ (by unfold cWs; rw [hk, ← e4]; exact List.mem_cons_of_mem _ List.mem_cons_self)) rfl
    rw [hst]
    refine call_fin hn ht g1 g2 g3 rfl hS k (av := (vs.map (encV b aS N0)).toArray) ?_
    exact va_runS hCF (met_of IH q1 hy q3 hrun l) ⟨cB q1 hy hts hfr hlo w1 (by rw [e4]; exact cO_d hO (by rw [hk]; rfl)), hts _ w2⟩ ⟨PcB_blind, pS vs⟩ rfl (by rw [List.length_map]; exact hlen) hL.1.1 (by simp) (lv_room (mok_enc q2)) hd1 hroom
  · -- static of a nest mate
    next kd rs hk =>
    obtain ⟨t, htt, hm⟩ := Option.bind_eq_some_iff.mp hm
    obtain ⟨r1, L1, q1, q2, q3, rfl⟩ := mgo_ok hm
    obtain ⟨t', e3, e4⟩ := cO_1 hO (by rw [hk]; rfl)
    have htm := List.mem_of_head? htt
    have hy := cO_t hO t htm
    rw [e3] at htm
    have : t = t' := by simpa using htm
    subst this
    rw [mnOf_eq q1] at e4
    have hd1 : decode r.2.1 pc = .ok (.invokestatic cr.2.1, 3) := by
      rw [hk] at hop
      have := natb hop
      subst this
      rw [e2]; exact hd
    have w1 : (Jvm.Cond.methodLinkNest (pN cr.1) cr.2.1 r1.2.2.1 "NotYetSaid").before args s = true := va_Nw.use rfl (hE.2.1 _ (hW _ (by unfold cWs; rw [hk, ← e4]; exact List.mem_cons_self)) rfl)
    have w2 : Jvm.Cond.static r1.2.2.1 ∈ gW := gW_of (hW _ (by unfold cWs; rw [hk, ← e4]; exact List.mem_cons_of_mem _ List.mem_cons_self)) rfl
    rw [hst]
    refine call_fin hn ht g1 g2 g3 rfl hS k (av := (vs.map (encV b aS N0)).toArray) ?_
    exact va_runSN hCF (met_of IH q1 hy q3 hrun l) ⟨cN q1 hy hts hfr hlo w1 (by rw [e4]; exact cO_d hO (by rw [hk]; rfl)), hts _ w2, trivial⟩ ⟨PcB_blind, pS vs⟩ rfl (by rw [List.length_map]; exact hlen) hL.1.1 (by simp) (lv_room (mok_enc q2)) hd1 hroom
  · -- a constructor
    next kd z rs hk =>
    obtain ⟨t, htt, hm⟩ := Option.bind_eq_some_iff.mp hm
    obtain ⟨r1, L1, q1, q2, q3, rfl⟩ := mgo_ok hm
    obtain ⟨t', e3, e4⟩ := cO_1 hO (by rw [hk]; rfl)
    have htm := List.mem_of_head? htt
    have hy := cO_t hO t htm
    rw [e3] at htm
    have : t = t' := by simpa using htm
    subst this
    rw [mnOf_eq q1] at e4
    have hd1 : decode r.2.1 pc = .ok (.invokespecial cr.2.1, 3) := by
      rw [hk] at hop
      have := natb hop
      subst this
      rw [e2]; exact hd
    have hnm : r1.2.2.1.name = "<init>" := by rw [e4]; exact cO_2 hO (by rw [hk]; rfl)
    have hrn := (rOk q1 hy).2.2.2.2.2.2.2.2 hnm
    have w1 : Jvm.Cond.methodLink (pN cr.1) cr.2.1 r1.2.2.1 ∈ gW := gW_of (hW _ (by unfold cWs; rw [hk, ← e4]; exact List.mem_cons_self)) rfl
    have w2 : Jvm.Cond.instanceMethod r1.2.2.1 ∈ gW := gW_of (hW _ (by unfold cWs; rw [hk, ← e4]; exact List.mem_cons_of_mem _ List.mem_cons_self)) rfl
    have hcb := cB (mc := h1.length - h.length) (ms := tot h1 - tot h) q1 hy hts hfr hlo w1 (by rw [e4]; exact cO_d hO (by rw [hk]; rfl))
    rw [hrn] at hcb
    rw [hst]
    refine call_fin hn ht g1 g2 g3 rfl hS k (av := ((Value.ref z :: vs).map (encV b aS N0)).toArray) ?_
    exact va_runI (As := vs.map (encV b aS N0)) (b := N0 + z) hCF (met_of IH q1 hy q3 hrun l) ⟨hcb, hnm, hts _ w2⟩ ⟨PcB_blind, pS (.ref z :: vs)⟩ rfl (by rw [List.length_map]; exact hlen) hL.1.1 (by simp [encV]) (lv_room (mok_enc q2)) hd1 hroom
  · -- a constructor of a nest mate
    next kd z rs hk =>
    obtain ⟨t, htt, hm⟩ := Option.bind_eq_some_iff.mp hm
    obtain ⟨r1, L1, q1, q2, q3, rfl⟩ := mgo_ok hm
    obtain ⟨t', e3, e4⟩ := cO_1 hO (by rw [hk]; rfl)
    have htm := List.mem_of_head? htt
    have hy := cO_t hO t htm
    rw [e3] at htm
    have : t = t' := by simpa using htm
    subst this
    rw [mnOf_eq q1] at e4
    have hd1 : decode r.2.1 pc = .ok (.invokespecial cr.2.1, 3) := by
      rw [hk] at hop
      have := natb hop
      subst this
      rw [e2]; exact hd
    have hnm : r1.2.2.1.name = "<init>" := by rw [e4]; exact cO_2 hO (by rw [hk]; rfl)
    have hrn := (rOk q1 hy).2.2.2.2.2.2.2.2 hnm
    have w1 : (Jvm.Cond.methodLinkNest (pN cr.1) cr.2.1 r1.2.2.1 "NotYetSaid").before args s = true := va_Nw.use rfl (hE.2.1 _ (hW _ (by unfold cWs; rw [hk, ← e4]; exact List.mem_cons_self)) rfl)
    have w2 : Jvm.Cond.instanceMethod r1.2.2.1 ∈ gW := gW_of (hW _ (by unfold cWs; rw [hk, ← e4]; exact List.mem_cons_of_mem _ List.mem_cons_self)) rfl
    have hcb := cN (mc := h1.length - h.length) (ms := tot h1 - tot h) q1 hy hts hfr hlo w1 (by rw [e4]; exact cO_d hO (by rw [hk]; rfl))
    rw [hrn] at hcb
    rw [hst]
    refine call_fin hn ht g1 g2 g3 rfl hS k (av := ((Value.ref z :: vs).map (encV b aS N0)).toArray) ?_
    exact va_runIN (As := vs.map (encV b aS N0)) (b := N0 + z) hCF (met_of IH q1 hy q3 hrun l) ⟨hcb, hnm, hts _ w2⟩ ⟨PcB_blind, pS (.ref z :: vs)⟩ rfl (by rw [List.length_map]; exact hlen) hL.1.1 (by simp [encV]) (lv_room (mok_enc q2)) hd1 hroom
  · obtain ⟨-, hm⟩ := bifs hm; cases hm
  · -- virtual, of a class that nobody extends
    next kd z rs hk =>
    obtain ⟨ci, hci, hm⟩ := Option.bind_eq_some_iff.mp hm
    obtain ⟨y, hly, hm⟩ := Option.bind_eq_some_iff.mp hm
    obtain ⟨r1, L1, q1, q2, q3, rfl⟩ := mgo_ok hm
    obtain ⟨t', e3, e4⟩ := cO_1 hO (by rw [hk]; rfl)
    have e5 := cO_5 hO (by rw [hk]; rfl) e3
    have htm := lookup_mem hly
    have hy : y ≠ LAWN := cO_t hO _ htm
    rw [e3] at htm
    have : (ci, y) = t' := by simpa using htm
    subst this
    dsimp only at e4 e5
    rw [mnOf_eq q1] at e4
    have hd1 : decode r.2.1 pc = .ok (.invokevirtual cr.2.1, 3) := by
      rw [hk] at hop
      have := natb hop
      subst this
      rw [e2]; exact hd
    obtain ⟨fs, hz1⟩ := hCl_ok hci
    obtain ⟨qc, hqc, -⟩ := hP z _ (wsOf_at hz1)
    have e6 : qc.1 = r1.2.2.1.cls := by
      unfold scN at e5
      rw [hqc] at e5
      rw [e4]
      exact e5
    have w1 : Jvm.Cond.methodLink (pN cr.1) cr.2.1 r1.2.2.1 ∈ gW := gW_of (hW _ (by unfold cWs; rw [hk, ← e4]; exact List.mem_cons_self)) rfl
    have w2 : Jvm.Cond.instanceMethod r1.2.2.1 ∈ gW := gW_of (hW _ (by unfold cWs; rw [hk, ← e4]; exact List.mem_cons_of_mem _ List.mem_cons_self)) rfl
    have w3 : Jvm.Cond.selects r1.2.2.1.cls r1.2.2.1 r1.2.2.1 ∈ gW := gW_of (hW _ (by unfold cWs; rw [hk, ← e4]; exact List.mem_cons_of_mem _ (List.mem_cons_of_mem _ List.mem_cons_self))) rfl
    have hrc := va_recv hE.1 hP hqc (wsOf_at hz1)
    rw [e6] at hrc
    rw [hst]
    refine call_fin hn ht g1 g2 g3 rfl hS k (av := ((Value.ref z :: vs).map (encV b aS N0)).toArray) ?_
    exact va_runV (As := vs.map (encV b aS N0)) (b := N0 + z) hCF (met_of IH q1 hy q3 hrun l) ⟨cB q1 hy hts hfr hlo w1 (by rw [e4]; exact cO_d hO (by rw [hk]; rfl)), hts _ w2, hts _ w3⟩ ⟨PcB_blind, hrc, pS (.ref z :: vs)⟩ rfl (by rw [List.length_map]; exact hlen) hL.1.1 (by simp [encV]) (lv_room (mok_enc q2)) hd1 hroom
  · -- virtual, by the receiver's class
    next kd z rs hk =>
    obtain ⟨ci, hci, hm⟩ := Option.bind_eq_some_iff.mp hm
    obtain ⟨y, hly, hm⟩ := Option.bind_eq_some_iff.mp hm
    obtain ⟨r1, L1, q1, q2, q3, rfl⟩ := mgo_ok hm
    obtain ⟨e5, e6⟩ := cO_6 hO (by rw [hk]; rfl)
    have htm := lookup_mem hly
    have hy : y ≠ LAWN := cO_t hO _ htm
    have hd1 : decode r.2.1 pc = .ok (.invokevirtual cr.2.1, 3) := by
      rw [hk] at hop
      have := natb hop
      subst this
      rw [e2]; exact hd
    obtain ⟨fs, hz1⟩ := hCl_ok hci
    obtain ⟨qc, hqc, -⟩ := hP z _ (wsOf_at hz1)
    have e7 : scN ci = qc.1 := by unfold scN; rw [hqc]
    have w1 : Jvm.Cond.methodLink (pN cr.1) cr.2.1 cr.2.2.2.2.1 ∈ gW := gW_of (hW _ (by unfold cWs; rw [hk]; exact List.mem_append_left _ List.mem_cons_self)) rfl
    have w2 : Jvm.Cond.sameMethod cr.2.2.2.2.1.cls cr.2.2.2.2.2.1 cr.2.2.2.2.1.name cr.2.2.2.2.1.desc ∈ gW := gW_of (hW _ (by unfold cWs; rw [hk]; exact List.mem_append_left _ (List.mem_cons_of_mem _ List.mem_cons_self))) rfl
    have w3 : Jvm.Cond.selects qc.1 cr.2.2.2.2.1 r1.2.2.1 ∈ gW := gW_of (hW _ (by unfold cWs; rw [hk, ← e7, ← mnOf_eq q1]; exact List.mem_append_right _ (List.mem_flatMap.mpr ⟨_, htm, List.mem_cons_self⟩))) rfl
    have w4 : Jvm.Cond.instanceMethod r1.2.2.1 ∈ gW := gW_of (hW _ (by unfold cWs; rw [hk, ← mnOf_eq q1]; exact List.mem_append_right _ (List.mem_flatMap.mpr ⟨_, htm, List.mem_cons_of_mem _ List.mem_cons_self⟩))) rfl
    have hrc := va_recv hE.1 hP hqc (wsOf_at hz1)
    obtain ⟨o1, o2, o3, o4, o5, o6, o7, o8, o9⟩ := rOk q1 hy
    have hG : GoodIn gW (ws_of r1) := gW_in fun w hw => by
      rcases List.mem_cons.mp hw with rfl | hw
      · exact o1
      · exact hw
    have hdesc := cO_d hO (by rw [hk]; rfl)
    have hcu : va_CU R s args (pN cr.1) qc.1 cr.2.2.2.2.2.1 cr.2.1 cr.2.2.2.2.1 r1.2.2.1 r1.2.1 r1.2.2.2.1 r1.2.2.2.2.1 (ws_of r1) (rm_of d (h1.length - h.length) (tot h1 - tot h)) (h1.length - h.length) (tot h1 - tot h) cr.2.2.2.1 :=
      ⟨⟨rfl, rfl, (by show d + 4 + 1 ≤ R.frames; omega), (by show 8 + (r1.2.2.2.1 + 11) + 64 * (d + 2) ≤ R.locals; omega), pay_in hts hG, List.mem_cons_self⟩, hts _ o1, hts _ o2, ⟨by rw [e5]; decide, by rw [e5]; decide⟩,
        fun sig hs => by rw [hs] at hdesc; exact (Option.some.inj hdesc).symm, hts _ w1, hts _ w2, by rw [e5]; exact anM_decl hts hE e6, hts _ w3, hts _ w4⟩
    rw [hst]
    refine call_fin hn ht g1 g2 g3 rfl hS k (av := ((Value.ref z :: vs).map (encV b aS N0)).toArray) ?_
    exact va_runU (As := vs.map (encV b aS N0)) (b := N0 + z) hCF (met_of IH q1 hy q3 hrun l) hcu ⟨PcB_blind, hrc, pS (.ref z :: vs)⟩ rfl (by rw [List.length_map]; exact hlen) hL.1.1 (by simp [encV]) (lv_room (mok_enc q2)) hd1 hroom
  · -- super
    next kd z rs hk =>
    obtain ⟨ci, hci, hm⟩ := Option.bind_eq_some_iff.mp hm
    obtain ⟨t, htt, hm⟩ := Option.bind_eq_some_iff.mp hm
    obtain ⟨r1, L1, q1, q2, q3, rfl⟩ := mgo_ok hm
    obtain ⟨t', e3, e4, e5⟩ := cO_7 hO (by rw [hk]; rfl)
    have htm := List.mem_of_head? htt
    have hy := cO_t hO t htm
    have htm' := htm
    rw [e3] at htm'
    have : t = t' := by simpa using htm'
    subst this
    rw [mnOf_eq q1] at e4
    have hd1 : decode r.2.1 pc = .ok (.invokespecial cr.2.1, 3) := by
      rw [hk] at hop
      have := natb hop
      subst this
      rw [e2]; exact hd
    obtain ⟨fs, hz1⟩ := hCl_ok hci
    obtain ⟨qc, hqc, -⟩ := hP z _ (wsOf_at hz1)
    have e6 : cr.2.2.2.2.2.1 = r1.2.2.1.cls := by rw [e4]
    have w1 : Jvm.Cond.methodLink (pN cr.1) cr.2.1 cr.2.2.2.2.1 ∈ gW := gW_of (hW _ (by unfold cWs; rw [hk]; exact List.mem_append_left _ (List.mem_append_left _ List.mem_cons_self))) rfl
    have w2 : Jvm.Cond.sameMethod cr.2.2.2.2.1.cls r1.2.2.1.cls cr.2.2.2.2.1.name cr.2.2.2.2.1.desc ∈ gW := gW_of (hW _ (by unfold cWs; rw [hk, ← e6]; exact List.mem_append_left _ (List.mem_append_left _ (List.mem_cons_of_mem _ List.mem_cons_self)))) rfl
    have w3 : Jvm.Cond.superclass (pN cr.1) cr.2.2.2.2.1.cls ∈ gW := gW_of (hW _ (by unfold cWs; rw [hk]; exact List.mem_append_left _ (List.mem_append_left _ (List.mem_cons_of_mem _ (List.mem_cons_of_mem _ List.mem_cons_self))))) rfl
    have w4 : Jvm.Cond.instanceMethod r1.2.2.1 ∈ gW := gW_of (hW _ (by unfold cWs; rw [hk, ← mnOf_eq q1]; exact List.mem_append_left _ (List.mem_append_right _ (List.mem_map.mpr ⟨_, htm, rfl⟩)))) rfl
    have w5 : cr.2.2.2.2.1.cls = r1.2.2.1.cls ∨ (Jvm.Cond.superclass cr.2.2.2.2.1.cls r1.2.2.1.cls).before args s = true := by
      by_cases hq : cr.2.2.2.2.1.cls = cr.2.2.2.2.2.1
      · exact Or.inl (hq.trans e6)
      · refine Or.inr (hts _ (gW_of (hW _ ?_) rfl))
        unfold cWs
        rw [hk, ← e6, decide_eq_false hq]
        exact List.mem_append_right _ List.mem_cons_self
    obtain ⟨o1, o2, o3, o4, o5, o6, o7, o8, o9⟩ := rOk q1 hy
    have hG : GoodIn gW (ws_of r1) := gW_in fun w hw => by
      rcases List.mem_cons.mp hw with rfl | hw
      · exact o1
      · exact hw
    have hdesc := cO_d hO (by rw [hk]; rfl)
    have hrc := va_recv hE.1 hP hqc (wsOf_at hz1)
    rw [hst]
    refine call_fin hn ht g1 g2 g3 rfl hS k (av := ((Value.ref z :: vs).map (encV b aS N0)).toArray) ?_
    refine runSU2 (x := cr.2.2.2.2.1) (n := cr.2.2.2.1) (As := vs.map (encV b aS N0)) (b := N0 + z) (hE.1.1 ci qc hqc).2 hCF (met_of IH q1 hy q3 hrun l) ⟨⟨rfl, rfl, (by show d + 4 + 1 ≤ R.frames; omega), (by show 8 + (r1.2.2.2.1 + 11) + 64 * (d + 2) ≤ R.locals; omega), pay_in hts hG, List.mem_cons_self⟩, hts _ w1, hts _ w2, hts _ w3, w5, by rw [e4], hts _ w4, hts _ o2, hts _ o1, e5,
      fun sig hs => by rw [hs] at hdesc; exact (Option.some.inj hdesc).symm⟩ ⟨PcB_blind, hrc, pS (.ref z :: vs)⟩ rfl (by rw [List.length_map]; exact hlen) hL.1.1 (by simp [encV]) (lv_room (mok_enc q2)) hd1 hroom
  · split at hm
    · obtain ⟨-, hm⟩ := bifs hm; obtain ⟨_, _, hm⟩ := Option.bind_eq_some_iff.mp hm; cases hm
    · cases hm
  · obtain ⟨-, hm⟩ := bifs hm; cases hm
  · split at hm
    · obtain ⟨-, hm⟩ := bifs hm; cases hm
    · cases hm
  · split at hm
    · obtain ⟨-, hm⟩ := bifs hm; cases hm
    · cases hm
  · split at hm
    · obtain ⟨-, hm⟩ := bifs hm; cases hm
    · cases hm
  · cases hm
/-- a call of a method of ours -/
theorem call_ok {n d a idx op pc : Nat} {L st : List Value} {h : mH} {q : mC} {r : pMT} (IH : Snd X b aS aV N0 dA D n) (hd : decode r.2.1 pc = .ok (opI op idx, 3)) (hm : mcl r.2.2.2.2.2.1 op idx a pc L st h = some (.inr (.inr q))) {rv : List Value} {h1 : mH} (hrun : runF X n d q.1 0 q.2.1 [] h = some (rv, h1))
    {p : Program} {l : Launch} {e : Env} {R : Room} {s : State} {m : MethodId} {args : Array Value} {below : List Frame} {meth : Method} {c : Code} {Q : State → Prop}
    (F : Fx X b aS aV N0 dA D r p s m args meth c) (n0 t0 : Nat) (hsz : s.heap.size = N0 + n0) (hn : n0 ≤ h.length) (ht : t0 ≤ tot h) (hc : h1.length ≤ n0 + R.cells) (hs : tot h1 ≤ t0 + R.slots) (hfr : d + 5 ≤ R.frames) (hlo : 64 * (d + 3) ≤ R.locals)
    {H : Heap} {locs : List Loc} {ls : Array Slot} (hP : va_P D pcl (wsOf b aS N0 dA h) H) (hS : va_S (fun q => N0 ≤ q) s.heap H locs) (hL : LR b aS N0 r.2.2.2.2.2.2.1 r.2.2.2.1 L ls)
    (k : ∀ {H : Heap} {locs : List Loc}, va_P D pcl (wsOf b aS N0 dA h1) H → va_S (fun q => N0 ≤ q) s.heap H locs → W p l e R s m args below meth c H locs (h1.length - n0) (tot h1 - t0) Q (F0 m q.2.2.1 ls ((rv ++ q.2.2.2).map (encV b aS N0)))) :
    W p l e R s m args below meth c H locs (h.length - n0) (tot h - t0) Q (F0 m pc ls (st.map (encV b aS N0))) := by
  obtain ⟨⟨g1, g2, g3⟩, -⟩ := IH hrun
  obtain ⟨hx, hb, hrt, hml, ho, hts, hini, hlk, hE, hH, hN⟩ := id F
  unfold mcl at hm
  split at hm
  · cases hm
  next cr hcr =>
  obtain ⟨h2, hm⟩ := bifs hm
  simp only [Bool.and_eq_true] at h2
  obtain ⟨⟨e1, e2⟩, h3⟩ := h2
  have e1 := natb e1
  have e2 := natb e2
  obtain ⟨hW, hO⟩ := pC_ok a cr hcr
  obtain ⟨⟨vs, rest⟩, h4, hm⟩ := Option.bind_eq_some_iff.mp hm
  obtain ⟨hst, hlen⟩ := mtk_ok h4
  dsimp only at hst hlen hm
  intro T hT Xs
  have hz := size_of (b := b) (aS := aS) (dA := dA) (D := D) hT Xs hsz hn hP hS
  refine call_arm (Q := Q) IH hd e1 e2 hW hO hst hlen hm h3 hrun F n0 t0 hsz hn ht hc hs hfr hlo hz hP hS hL k T hT Xs
theorem mrt_ng {o : Option FieldType} {st : List Value} {h : mH} {q : mG} (hm : mrt o st h = some (.inr (.inl q))) : False := by
  unfold mrt at hm
  split at hm
  · obtain ⟨-, hm⟩ := bifs hm; cases hm
  · cases hm
theorem mrt_nc {o : Option FieldType} {st : List Value} {h : mH} {q : mC} (hm : mrt o st h = some (.inr (.inr q))) : False := by
  unfold mrt at hm
  split at hm
  · obtain ⟨-, hm⟩ := bifs hm; cases hm
  · cases hm
theorem mgo_nl {y pc : Nat} {vs rest : List Value} {q : mR} (h : mgo y vs pc rest = some (.inl q)) : False := by
  unfold mgo at h
  split at h
  · cases h
  · obtain ⟨h1, h2⟩ := bifs h
    obtain ⟨L, h3, h4⟩ := Option.bind_eq_some_iff.mp h2
    cases h4
theorem mcl_nl {own op idx a pc : Nat} {L st : List Value} {h : mH} {q : mR} (hm : mcl own op idx a pc L st h = some (.inl q)) : False := by
  unfold mcl at hm
  split at hm
  · cases hm
  obtain ⟨-, hm⟩ := bifs hm
  obtain ⟨⟨vs, rest⟩, -, hm⟩ := Option.bind_eq_some_iff.mp hm
  unfold mcK at hm
  split at hm
  · obtain ⟨t, htt, hm⟩ := Option.bind_eq_some_iff.mp hm; exact (mgo_nl hm).elim
  · obtain ⟨t, htt, hm⟩ := Option.bind_eq_some_iff.mp hm; exact (mgo_nl hm).elim
  · obtain ⟨t, htt, hm⟩ := Option.bind_eq_some_iff.mp hm; exact (mgo_nl hm).elim
  · obtain ⟨t, htt, hm⟩ := Option.bind_eq_some_iff.mp hm; exact (mgo_nl hm).elim
  · obtain ⟨-, hm⟩ := bifs hm; cases hm
  · obtain ⟨ci, hci, hm⟩ := Option.bind_eq_some_iff.mp hm; obtain ⟨y, hly, hm⟩ := Option.bind_eq_some_iff.mp hm; exact (mgo_nl hm).elim
  · obtain ⟨ci, hci, hm⟩ := Option.bind_eq_some_iff.mp hm; obtain ⟨y, hly, hm⟩ := Option.bind_eq_some_iff.mp hm; exact (mgo_nl hm).elim
  · obtain ⟨ci, hci, hm⟩ := Option.bind_eq_some_iff.mp hm; obtain ⟨t, htt, hm⟩ := Option.bind_eq_some_iff.mp hm; exact (mgo_nl hm).elim
  · split at hm
    · obtain ⟨-, hm⟩ := bifs hm; obtain ⟨_, _, hm⟩ := Option.bind_eq_some_iff.mp hm; cases hm
    · cases hm
  · obtain ⟨-, hm⟩ := bifs hm; cases hm
  · split at hm
    · obtain ⟨-, hm⟩ := bifs hm; cases hm
    · cases hm
  · split at hm
    · obtain ⟨-, hm⟩ := bifs hm; cases hm
    · cases hm
  · split at hm
    · obtain ⟨-, hm⟩ := bifs hm; cases hm
    · cases hm
  · cases hm
theorem mstep_go {X : mX} {own : Nat} {lg ini : Bool} {a pc : Nat} {L : List Value} {h : mH} {i : Instr} {st : List Value} {z : mR ⊕ (mG ⊕ mC)} (hm : mstep X own lg ini a pc L h i st = some z) : ∃ q, z = .inr (.inl q) := by
  have gb : ∀ {α : Type} {o : Option α} {f : α → mP}, (∀ x z, f x = some z → ∃ q, z = .inr (.inl q)) → o.bind f = some z → ∃ q, z = .inr (.inl q) := fun hf hb => by
    obtain ⟨x, -, hx⟩ := Option.bind_eq_some_iff.mp hb
    exact hf _ _ hx
  have gg : ∀ (q : mG) (z : mR ⊕ (mG ⊕ mC)), go q = some z → ∃ q, z = .inr (.inl q) := fun q z h => by cases h; exact ⟨_, rfl⟩
  have gbr : ∀ {pc : Nat} {off : Int} {L st : List Value} {h : mH} {c : Prop} [Decidable c] (z : mR ⊕ (mG ⊕ mC)), mbr pc off L st h c = some z → ∃ q, z = .inr (.inl q) := fun z h => by
    unfold mbr at h
    obtain ⟨t, -, h⟩ := Option.bind_eq_some_iff.mp h
    split at h <;> exact gg _ _ h
  have gc : ∀ {b : Bool} {x y : mP}, (x = some z → ∃ q, z = .inr (.inl q)) → (y = some z → ∃ q, z = .inr (.inl q)) → (bif b then x else y) = some z → ∃ q, z = .inr (.inl q) := fun {b _ _} h1 h2 h => by
    cases b
    · exact h2 h
    · exact h1 h
  unfold mstep at hm
  split at hm
  all_goals first
    | exact gg _ _ hm
    | exact gbr _ hm
    | (exact gb (fun _ _ h => gg _ _ h) hm)
    | (exact gb (fun _ _ h => gbr _ h) hm)
    | (cases hm; done)
    | (obtain ⟨-, hm⟩ := bifs hm; first | exact gg _ _ hm | exact gb (fun _ _ h => gg _ _ h) hm)
    | (obtain ⟨-, hm⟩ := bifn hm; first | exact gg _ _ hm | (obtain ⟨-, hm⟩ := bifn hm; exact gg _ _ hm))
    | (split at hm; · cases hm
       exact gg _ _ hm)
    | (obtain ⟨x, -, hm⟩ := Option.bind_eq_some_iff.mp hm; first | exact gb (fun _ _ h => gg _ _ h) hm | exact gc (fun h => gb (fun _ _ h => gg _ _ h) h) (fun h => gb (fun _ _ h => gg _ _ h) h) hm)
theorem mstep_nl {X : mX} {own : Nat} {lg ini : Bool} {a pc : Nat} {L : List Value} {h : mH} {i : Instr} {st : List Value} {q : mR} (hm : mstep X own lg ini a pc L h i st = some (.inl q)) : False := by
  obtain ⟨_, h⟩ := mstep_go hm
  cases h
theorem mstep_nc {X : mX} {own : Nat} {lg ini : Bool} {a pc : Nat} {L : List Value} {h : mH} {i : Instr} {st : List Value} {q : mC} (hm : mstep X own lg ini a pc L h i st = some (.inr (.inr q))) : False := by
  obtain ⟨_, h⟩ := mstep_go hm
  cases h
section SWc
variable {r : pMT} {pc pc' : Nat} {L st st' : List Value} {h : mH}
/-- as SW.q, SW.s: with the room -/
theorem SW.qr (key : ∀ {p : Program} {l : Launch} {e : Env} {R : Room} {s : State} {m : MethodId} {args : Array Value} {below : List Frame} {meth : Method} {c : Code} {Q : State → Prop} {H : Heap} {locs : List Loc} {cells slots : Nat} {ls : Array Slot},
    Fx X b aS aV N0 dA D r p s m args meth c → 4 ≤ R.frames → 128 ≤ R.locals → cells ≤ R.cells → slots ≤ R.slots → ls.size = r.2.2.2.1 → va_P D pcl (wsOf b aS N0 dA h) H → va_S (fun q => N0 ≤ q) s.heap H locs →
    W p l e R s m args below meth c H locs cells slots Q (F0 m pc' ls (st'.map (encV b aS N0))) → W p l e R s m args below meth c H locs cells slots Q (F0 m pc ls (st.map (encV b aS N0)))) :
    SW X b aS aV N0 dA D r pc L st h (pc', L, st', h) :=
  ⟨Nat.le_refl _, Nat.le_refl _, fun F n0 t0 hsz hn ht hc hs hf hl _ _ _ hP hS hL k => key F hf hl (Nat.sub_le_of_le_add (by rw [Nat.add_comm]; exact hc)) (Nat.sub_le_of_le_add (by rw [Nat.add_comm]; exact hs)) hL.1.1 hP hS (k hP hS hL)⟩
theorem SW.sr {k : Nat} {e0 e1 : mE} (he : h[k]? = some e0) (hz : esz e1 = esz e0) (key : ∀ {p : Program} {l : Launch} {e : Env} {R : Room} {s : State} {m : MethodId} {args : Array Value} {below : List Frame} {meth : Method} {c : Code} {Q : State → Prop} {H : Heap} {locs : List Loc} {cells slots : Nat} {ls : Array Slot},
    Fx X b aS aV N0 dA D r p s m args meth c → 4 ≤ R.frames → 128 ≤ R.locals → ls.size = r.2.2.2.1 → va_P D pcl (wsOf b aS N0 dA h) H → va_S (fun q => N0 ≤ q) s.heap H locs →
    (∀ (H : Heap) (locs : List Loc), va_P D pcl ((wsOf b aS N0 dA h).set k (N0 + k, encE b aS N0 dA e1)) H → va_D (fun q => N0 ≤ q) ((wsOf b aS N0 dA h).set k (N0 + k, encE b aS N0 dA e1)) → va_S (fun q => N0 ≤ q) s.heap H locs → W p l e R s m args below meth c H locs cells slots Q (F0 m pc' ls (st'.map (encV b aS N0)))) → W p l e R s m args below meth c H locs cells slots Q (F0 m pc ls (st.map (encV b aS N0)))) :
    SW X b aS aV N0 dA D r pc L st h (pc', L, st', h.set k e1) := by
  have ht := tot_set he hz
  refine ⟨by simp, by rw [ht]; exact Nat.le_refl _, fun F n0 t0 _ _ _ _ _ hf hl _ _ _ hP hS hL k => ?_⟩
  refine key F hf hl hL.1.1 hP hS (fun H locs hP _ hS => ?_)
  have := @k H locs _ (by rw [wsOf_set]; exact hP) hS hL
  dsimp only at this
  rw [List.length_set, ht] at this
  exact this
/-- a call that runs no code of ours -/
theorem callgo_ok {a idx op : Nat} {q : mG} (hd : decode r.2.1 pc = .ok (opI op idx, 3)) (hm : mcl r.2.2.2.2.2.1 op idx a pc L st h = go q) : SW X b aS aV N0 dA D r pc L st h q := by
  unfold mcl at hm
  split at hm
  · cases hm
  next cr hcr =>
  obtain ⟨h2, hm⟩ := bifs hm
  simp only [Bool.and_eq_true] at h2
  obtain ⟨⟨e1, e2⟩, hop⟩ := h2
  have e1 := natb e1
  have e2 := natb e2
  obtain ⟨hW, hO⟩ := pC_ok a cr hcr
  obtain ⟨⟨vs, rest⟩, h4, hm⟩ := Option.bind_eq_some_iff.mp hm
  obtain ⟨hst, hlen⟩ := mtk_ok h4
  dsimp only at hst hlen hm
  unfold mcK at hm
  split at hm
  · obtain ⟨t, htt, hm⟩ := Option.bind_eq_some_iff.mp hm; exact (mgo_no hm).elim
  · obtain ⟨t, htt, hm⟩ := Option.bind_eq_some_iff.mp hm; exact (mgo_no hm).elim
  · obtain ⟨t, htt, hm⟩ := Option.bind_eq_some_iff.mp hm; exact (mgo_no hm).elim
  · obtain ⟨t, htt, hm⟩ := Option.bind_eq_some_iff.mp hm; exact (mgo_no hm).elim
  · next kd z rs hk =>
    obtain ⟨hmk, hm⟩ := bifs hm
    cases hm
    have hd1 : decode r.2.1 pc = .ok (.invokespecial cr.2.1, 3) := by
      rw [hk] at hop
      have := natb hop
      subst this
      rw [e2]; exact hd
    have w1 : Jvm.Cond.methodLink (pN cr.1) cr.2.1 Lib.objectInit ∈ gW := gW_of (hW _ (by unfold cWs; rw [hk]; exact List.mem_cons_self)) rfl
    have w2 : Jvm.Cond.instanceMethod Lib.objectInit ∈ gW := gW_of (lwAt_mem (i := 99) _ (by decide +kernel)) rfl
    have w3 : Jvm.Cond.code Lib.objectInit ⟨#[0xb1]⟩ 1 none ∈ gW := gW_of (lwAt_mem (i := 100) _ (by decide +kernel)) rfl
    rw [Bool.and_eq_true] at hmk
    obtain ⟨hmk, hv⟩ := hmk
    have hv : vs = [] := List.isEmpty_iff.mp hv
    subst hv
    rw [hst]
    refine SW.qr (fun F hf hl hc hs hz hP hS k => ?_)
    obtain ⟨hx, hb, hrt, hml, ho, hts, hini, hlk, hE, hH, hN⟩ := F
    rw [← e1] at ho
    have h8 := mok_enc (b := b) (aS := aS) (N0 := N0) hmk
    exact W.objInit hx hb ho (hts _ w1) (hts _ w2) (hts _ w3) rfl (by rw [hml]; exact hz) rfl hd1 (Nat.le_trans (by decide) hf) (by show 2 * 0 + _ + 12 ≤ _; omega) k
  · obtain ⟨ci, hci, hm⟩ := Option.bind_eq_some_iff.mp hm; obtain ⟨y, hly, hm⟩ := Option.bind_eq_some_iff.mp hm; exact (mgo_no hm).elim
  · obtain ⟨ci, hci, hm⟩ := Option.bind_eq_some_iff.mp hm; obtain ⟨y, hly, hm⟩ := Option.bind_eq_some_iff.mp hm; exact (mgo_no hm).elim
  · obtain ⟨ci, hci, hm⟩ := Option.bind_eq_some_iff.mp hm; obtain ⟨t, htt, hm⟩ := Option.bind_eq_some_iff.mp hm; exact (mgo_no hm).elim
  · -- arraycopy
    next kd rs hk =>
    split at hm
    · next a0 sp a1 dp n =>
      obtain ⟨hmk, hm⟩ := bifs hm
      obtain ⟨h', h5, hm⟩ := Option.bind_eq_some_iff.mp hm
      cases hm
      have hd1 : decode r.2.1 pc = .ok (.invokestatic cr.2.1, 3) := by
        rw [hk] at hop
        have := natb hop
        subst this
        rw [e2]; exact hd
      have w1 : Jvm.Cond.methodLink (pN cr.1) cr.2.1 arraycopyName ∈ gW := gW_of (hW _ (by unfold cWs; rw [hk]; exact List.mem_cons_self)) rfl
      have w2 : Jvm.Cond.native arraycopyName ∈ gW := gW_of (lwAt_mem (i := 1181) _ (by decide +kernel)) rfl
      have w3 : Jvm.Cond.static arraycopyName ∈ gW := gW_of (lwAt_mem (i := 1180) _ (by decide +kernel)) rfl
      have w4 : Jvm.Cond.initialized "java/lang/System" ∈ gW := gW_of (lwAt_mem (i := 92) _ (by decide +kernel)) rfl
      unfold hCY at h5
      split at h5
      · next t0 n0 f t1 n1 g q1 q2 =>
        obtain ⟨h6, h7⟩ := bifs h5
        cases h7
        simp only [Bool.and_eq_true, Bool.not_eq_true', decide_eq_false_iff_not, Nat.ble_eq] at h6
        obtain ⟨⟨⟨⟨⟨⟨z0, z1⟩, z2⟩, z3⟩, z4⟩, z5⟩, z6⟩ := h6
        rw [natb z0] at q1
        rw [natb z1] at q2 ⊢
        rw [hst]
        refine SW.sr q2 rfl (fun F hf hl hz hP hS k => ?_)
        obtain ⟨hx, hb, hrt, hml, ho, hts, hini, hlk, hE, hH, hN⟩ := F
        rw [← e1] at ho
        have h8 := mok_enc (b := b) (aS := aS) (N0 := N0) hmk
        have h9 : nativeFrameWords "java/lang/System" "arraycopy" 5 ≤ 40 := by decide +kernel
        exact va_copyi hx hb (by rw [hml]; exact hz.symm) ho (hts _ w1) (hts _ w2) (hts _ w3) (hts _ w4) hE.1 hP wsOf_D hS a0 a1 0 0 (wsOf_at q1) (wsOf_at q2) rfl rfl rfl z2 z3 z4 z5 z6 (fun _ _ => rfl) (Nat.le_trans (by decide) hf) (Nat.le_trans (Nat.add_le_add_right h8 _) (by omega : 8 + (nativeFrameWords "java/lang/System" "arraycopy" 5 + 11) ≤ _)) hd1 k
      · cases h5
    · cases hm
  · -- length
    next kd rs hk =>
    obtain ⟨hmk, hm⟩ := bifs hm
    cases hm
    have hvs : vs = [] := List.eq_nil_of_length_eq_zero (hlen.trans (jk_9 hcr hk).2)
    rw [hst, hvs]
    have w1 : Jvm.Cond.methodLink (pN cr.1) cr.2.1 yLen ∈ gW := by
      rw [← (jk_9 hcr hk).1]
      exact gW_of (hW _ (by unfold cWs; rw [hk]; exact List.mem_cons_self)) rfl
    have hd1 : decode r.2.1 pc = .ok (.invokevirtual cr.2.1, 3) := by
      rw [hk] at hop
      have := natb hop
      subst this
      rw [e2]; exact hd
    refine ⟨Nat.le_refl _, Nat.le_refl _, fun F n0 t0 hsz hn ht hc hs hf hl H locs ls hP hS hL k => ?_⟩
    dsimp only at hc hs
    obtain ⟨hx, hb, hrt, hml, ho, hts, hini, hlk, hE, ⟨-, -, g1, g2, g3⟩, hN⟩ := F
    rw [← e1] at ho
    have hTU : ∀ U : State, U.heap = H → State.WarmedH _ U.vm → TW aS aV U := fun U hU hW => by
      unfold TW
      rw [hU]
      exact ⟨((vk_S.moved hW.alike g1).kept hS.2.1).narrow (fun _ h => h.elim), ((va_Z.moved hW.alike g2).kept hS.2.1).narrow (fun _ h => h.elim), ((va_Zq.moved hW.alike g3).kept hS.2.1).narrow (fun _ h => h.elim)⟩
    have h8 := mok_enc (b := b) (aS := aS) (N0 := N0) hmk
    exact va_calli (A1 := fun _ => False) (va_runV (As := []) (rest := rs.map (encV b aS N0)) ⟨hx, hb, hml, ho, hts⟩ (cJ_len _ (aS := aS) (aV := aV)) (cwV 0 hts (gVj w1 j636 j637 j86 j638) rfl rfl rfl (by decide +kernel) ⟨(by show 1 + 1 ≤ _; omega), (by show 8 + (1 + 11) + 20 ≤ _; omega)⟩) ⟨TW_blind, vk_recv (i := 0) g1 (by omega) hS, fun U hU hW => ⟨rfl, hTU U hU hW⟩⟩ rfl rfl hL.1.1 rfl (lv_room h8) hd1 ⟨by omega, by omega⟩) hS (fun q _ h => h.elim) (fun q h => h.elim) (fun x u t H1 locs1 ht1 hvm hp hB hz1 hk1 hS1 => by
      subst hp
      exact k (hP.kept (fun k x hx => hk1 x.1 ((hP k x hx).lt) (fun h => h))) hS1 hL)
  · -- charAt
    next kd rs hk =>
    split at hm
    · next i =>
      obtain ⟨hmk, hm⟩ := bifs hm
      cases hm
      rw [Bool.and_eq_true] at hmk
      obtain ⟨hmk, hmi⟩ := hmk
      rw [hst]
      have w1 : Jvm.Cond.methodLink (pN cr.1) cr.2.1 yChr ∈ gW := by
        rw [← jk_10 hcr hk]
        exact gW_of (hW _ (by unfold cWs; rw [hk]; exact List.mem_cons_self)) rfl
      have hi90 : i = Int32.ofNat i.toNatClampNeg ∧ i.toNatClampNeg < 90 := by
        unfold mib at hmi
        rw [Bool.and_eq_true] at hmi
        have h1 : ¬ i < 0 := by simpa using hmi.1
        refine ⟨(Int32.ofNat_toNatClampNeg i ?_).symm, Nat.blt_eq.mp hmi.2⟩
        rw [Int32.le_iff_toInt_le]
        rw [Int32.lt_iff_toInt_lt] at h1
        omega
      have hd1 : decode r.2.1 pc = .ok (.invokevirtual cr.2.1, 3) := by
        rw [hk] at hop
        have := natb hop
        subst this
        rw [e2]; exact hd
      refine ⟨Nat.le_refl _, Nat.le_refl _, fun F n0 t0 hsz hn ht hc hs hf hl H locs ls hP hS hL k => ?_⟩
      dsimp only at hc hs
      obtain ⟨hx, hb, hrt, hml, ho, hts, hini, hlk, hE, ⟨-, -, g1, g2, g3⟩, hN⟩ := F
      rw [← e1] at ho
      have hTU : ∀ U : State, U.heap = H → State.WarmedH _ U.vm → TW aS aV U := fun U hU hW => by
        unfold TW
        rw [hU]
        exact ⟨((vk_S.moved hW.alike g1).kept hS.2.1).narrow (fun _ h => h.elim), ((va_Z.moved hW.alike g2).kept hS.2.1).narrow (fun _ h => h.elim), ((va_Zq.moved hW.alike g3).kept hS.2.1).narrow (fun _ h => h.elim)⟩
      have h8 := mok_enc (b := b) (aS := aS) (N0 := N0) hmk
      exact va_calli (A1 := fun _ => False) (va_runV (As := [.int i]) (rest := rs.map (encV b aS N0)) ⟨hx, hb, hml, ho, hts⟩ (cJ_chr _ (aS := aS) (aV := aV) hi90.1 hi90.2) (cwV 1 hts (gVj w1 j646 j647 j86 j648) rfl rfl rfl (by decide +kernel) ⟨(by show 3 + 1 ≤ _; omega), (by show 8 + (2 + 11) + 64 ≤ _; omega)⟩) ⟨TW_blind, vk_recv (i := 0) g1 (by omega) hS, fun U hU hW => ⟨rfl, hTU U hU hW⟩⟩ rfl rfl hL.1.1 rfl (lv_room h8) hd1 ⟨by omega, by omega⟩) hS (fun q _ h => h.elim) (fun q h => h.elim) (fun x u t H1 locs1 ht1 hvm hp hB hz1 hk1 hS1 => by
        subst hp
        exact k (hP.kept (fun k x hx => hk1 x.1 ((hP k x hx).lt) (fun h => h))) hS1 hL)
    · cases hm
  · -- max
    next kd rs hk =>
    split at hm
    · next x y =>
      obtain ⟨hmk, hm⟩ := bifs hm
      cases hm
      have hd1 : decode r.2.1 pc = .ok (.invokestatic cr.2.1, 3) := by
        rw [hk] at hop
        have := natb hop
        subst this
        rw [e2]; exact hd
      have w1 : Jvm.Cond.methodLink (pN cr.1) cr.2.1 Lib.Math.max.name ∈ gW := gW_of (hW _ (by unfold cWs; rw [hk]; exact List.mem_cons_self)) rfl
      rw [hst]
      refine SW.qr (fun F hf hl hc hs hz hP hS k => ?_)
      obtain ⟨hx, hb, hrt, hml, ho, hts, hini, hlk, hE, hH, hN⟩ := F
      rw [← e1] at ho
      have h8 := mok_enc (b := b) (aS := aS) (N0 := N0) hmk
      exact va_mmax hx hb (by rw [hml]; exact hz.symm) ho (hts _ w1) (hts _ (gW_of (lwAt_mem (i := 494) _ (by decide +kernel)) rfl)) (hts (.initialized "java/lang/Math") (gW_of (lwAt_mem (i := 85) _ (by decide +kernel)) rfl)) (hts _ (gW_of (lwAt_mem (i := 495) _ (by decide +kernel)) rfl)) (Nat.le_trans (by decide) hf) (Nat.le_trans (Nat.add_le_add_right h8 _) (by omega : 8 + 13 ≤ _)) hc hs hd1 k
    · cases hm
  · -- min
    next kd rs hk =>
    split at hm
    · next x y =>
      obtain ⟨hmk, hm⟩ := bifs hm
      cases hm
      have hd1 : decode r.2.1 pc = .ok (.invokestatic cr.2.1, 3) := by
        rw [hk] at hop
        have := natb hop
        subst this
        rw [e2]; exact hd
      have w1 : Jvm.Cond.methodLink (pN cr.1) cr.2.1 Lib.Math.min.name ∈ gW := gW_of (hW _ (by unfold cWs; rw [hk]; exact List.mem_cons_self)) rfl
      rw [hst]
      refine SW.qr (fun F hf hl hc hs hz hP hS k => ?_)
      obtain ⟨hx, hb, hrt, hml, ho, hts, hini, hlk, hE, hH, hN⟩ := F
      rw [← e1] at ho
      have h8 := mok_enc (b := b) (aS := aS) (N0 := N0) hmk
      exact va_mmin hx hb (by rw [hml]; exact hz.symm) ho (hts _ w1) (hts _ (gW_of (lwAt_mem (i := 606) _ (by decide +kernel)) rfl)) (hts (.initialized "java/lang/Math") (gW_of (lwAt_mem (i := 85) _ (by decide +kernel)) rfl)) (hts _ (gW_of (lwAt_mem (i := 607) _ (by decide +kernel)) rfl)) (Nat.le_trans (by decide) hf) (Nat.le_trans (Nat.add_le_add_right h8 _) (by omega : 8 + 13 ≤ _)) hc hs hd1 k
    · cases hm
  · cases hm
end SWc
/-- THE SMALL MACHINE IS SOUND: what it runs to, the true one comes to -/
theorem snd_step {n : Nat} (IH : Snd X b aS aV N0 dA D n) : Snd X b aS aV N0 dA D (n + 1) := by
    unfold Snd
    intro d y pc L st h rv hf hrun
    have hrun : mbody (runF X n) X d y pc L st h = some (rv, hf) := hrun
    unfold mbody at hrun
    cases hn : nxt X y pc L st h with
    | none => rw [hn] at hrun; cases hrun
    | some z =>
    rw [hn] at hrun
    unfold nxt at hn
    obtain ⟨r0, hy⟩ : ∃ r0, pMth y = some r0 := by
      cases hq : pMth y with
      | none => rw [hq] at hn; cases hn
      | some r0 => exact ⟨r0, rfl⟩
    rw [hy] at hn
    dsimp only at hn
    obtain ⟨⟨i, a⟩, hp⟩ : ∃ q, r0.1 pc = some q := by
      cases hq : r0.1 pc with
      | none => rw [hq] at hn; cases hn
      | some r0 => exact ⟨r0, rfl⟩
    rw [hp] at hn
    dsimp only at hn
    have hd := dec_of hy hp
    obtain z | q | q := z
    · -- it returns
      cases hrun
      obtain ⟨hh, hst, hret⟩ : hf = h ∧ rv = st ∧ retAt r0 pc rv := by
        have mk : ∀ {o : Option FieldType}, mrt o st h = some (.inl (rv, hf)) → hf = h ∧ rv = st ∧ ∃ v, rv = [v] ∧ okRet o v = true := fun hm => by
          unfold mrt at hm
          split at hm
          · obtain ⟨q1, q2⟩ := bifs hm; cases q2; exact ⟨rfl, rfl, _, rfl, q1⟩
          · cases hm
        unfold nxtI at hn
        split at hn
        · obtain ⟨q1, q2⟩ := bifs hn
          obtain ⟨e1, e2, v, e3, e4⟩ := mk q2
          refine ⟨e1, e2, Or.inr ⟨v, e3, e4, Or.inl ⟨?_, hdn hd rfl⟩⟩⟩
          rw [← e2, e3] at q1
          simpa using q1
        · obtain ⟨q1, q2⟩ := bifs hn
          obtain ⟨e1, e2, v, e3, e4⟩ := mk q2
          refine ⟨e1, e2, Or.inr ⟨v, e3, e4, Or.inr (Or.inl ⟨?_, hdn hd rfl⟩)⟩⟩
          rw [← e2, e3] at q1
          simpa using q1
        · obtain ⟨q1, q2⟩ := bifs hn
          obtain ⟨e1, e2, v, e3, e4⟩ := mk q2
          refine ⟨e1, e2, Or.inr ⟨v, e3, e4, Or.inr (Or.inr ⟨?_, hdn hd rfl⟩)⟩⟩
          rw [← e2, e3] at q1
          simpa using q1
        · obtain ⟨q1, q2⟩ := bifs hn
          cases q2
          rw [Bool.and_eq_true] at q1
          exact ⟨rfl, (List.isEmpty_iff.mp q1.1).symm, Or.inl ⟨rfl, Option.isNone_iff_eq_none.mp q1.2, hdn hd rfl⟩⟩
        · exact (mcl_nl hn).elim
        · exact (mcl_nl hn).elim
        · exact (mcl_nl hn).elim
        · exact (mstep_nl hn).elim
      subst hh
      subst hst
      refine ⟨⟨Nat.le_refl _, Nat.le_refl _, ?_⟩, ?_⟩
      · rcases hret with ⟨e, -⟩ | ⟨v, e, -⟩ <;> rw [e] <;> simp
      · intro r hr p l e R s m args below meth c Q F n0 t0 hsz hn0 ht hc hs hf hl fin H locs ls hP hS hL
        cases hy.symm.trans hr
        exact fin hret hP hS
    · -- it goes on
      have hsw : SW X b aS aV N0 dA D r0 pc L st h q := by
        unfold nxtI at hn
        split at hn
        · obtain ⟨q1, q2⟩ := bifs hn; exact (mrt_ng q2).elim
        · obtain ⟨q1, q2⟩ := bifs hn; exact (mrt_ng q2).elim
        · obtain ⟨q1, q2⟩ := bifs hn; exact (mrt_ng q2).elim
        · obtain ⟨q1, q2⟩ := bifs hn; cases q2
        · exact callgo_ok (op := 0) (hdn hd rfl) hn
        · exact callgo_ok (op := 1) (hdn hd rfl) hn
        · exact callgo_ok (op := 2) (hdn hd rfl) hn
        · exact step_ok hd hn
      obtain ⟨⟨g1, g2, g3⟩, key⟩ := IH hrun
      obtain ⟨s1, s2, skey⟩ := hsw
      refine ⟨⟨Nat.le_trans s1 g1, Nat.le_trans s2 g2, g3⟩, ?_⟩
      intro r hr p l e R s m args below meth c Q F n0 t0 hsz hn0 ht hc hs hf hl fin H locs ls hP hS hL
      cases hy.symm.trans hr
      refine skey F n0 t0 hsz hn0 ht (Nat.le_trans g1 hc) (Nat.le_trans g2 hs) (by omega) (by omega) hP hS hL (fun hP hS hL => ?_)
      exact key r0 hr F n0 t0 hsz (Nat.le_trans hn0 s1) (Nat.le_trans ht s2) hc hs hf hl fin hP hS hL
    · -- it calls
      cases d with
      | zero => cases hrun
      | succ d =>
      obtain ⟨⟨rv1, h1⟩, hr1, hr2⟩ := Option.bind_eq_some_iff.mp hrun
      obtain ⟨⟨a1, a2, a3⟩, -⟩ := IH hr1
      obtain ⟨⟨b1, b2, b3⟩, key⟩ := IH hr2
      have hcl : ∃ op idx, decode r0.2.1 pc = .ok (opI op idx, 3) ∧ mcl r0.2.2.2.2.2.1 op idx a pc L st h = some (.inr (.inr q)) := by
        unfold nxtI at hn
        split at hn
        · obtain ⟨q1, q2⟩ := bifs hn; exact (mrt_nc q2).elim
        · obtain ⟨q1, q2⟩ := bifs hn; exact (mrt_nc q2).elim
        · obtain ⟨q1, q2⟩ := bifs hn; exact (mrt_nc q2).elim
        · obtain ⟨q1, q2⟩ := bifs hn; cases q2
        · exact ⟨0, _, hdn hd rfl, hn⟩
        · exact ⟨1, _, hdn hd rfl, hn⟩
        · exact ⟨2, _, hdn hd rfl, hn⟩
        · exact (mstep_nc hn).elim
      obtain ⟨op, idx, hd1, hm⟩ := hcl
      refine ⟨⟨Nat.le_trans a1 b1, Nat.le_trans a2 b2, b3⟩, ?_⟩
      intro r hr p l e R s m args below meth c Q F n0 t0 hsz hn0 ht hc hs hf hl fin H locs ls hP hS hL
      cases hy.symm.trans hr
      refine call_ok IH hd1 hm hr1 F n0 t0 hsz hn0 ht (Nat.le_trans b1 hc) (Nat.le_trans b2 hs) hf hl hP hS hL (fun hP hS => ?_)
      exact key r0 hr F n0 t0 hsz (Nat.le_trans hn0 a1) (Nat.le_trans ht a2) hc hs hf hl fin hP hS hL
theorem snd_all (n : Nat) : Snd X b aS aV N0 dA D n := by
  induction n with
  | zero => unfold Snd; intro d y pc L st h rv hf hrun; cases hrun
  | succ n ih => exact snd_step ih
end CallOk
