/-! the JDK's length and charAt of the one text -/
def TW (aS aV : Nat) (U : State) : Prop := vk_S 1 [90] [pTB] (fun _ => aS) (fun _ => aV) (fun _ => False) U U.heap ∧ va_Z "java/lang/String" "COMPACT_STRINGS" "Z" (.int 1) (fun _ => False) U U.heap ∧ va_Zq "jdk/internal/util/Preconditions" "SIOOBE_FORMATTER" "Ljava/util/function/BiFunction;" (fun _ => False) U U.heap
def yLen : MethodName := ⟨"java/lang/String", "length", "()I"⟩
def yCod : MethodName := ⟨"java/lang/String", "coder", "()B"⟩
def yChr : MethodName := ⟨"java/lang/String", "charAt", "(I)C"⟩
def yLat : MethodName := ⟨"java/lang/String", "isLatin1", "()Z"⟩
def yChL : MethodName := ⟨"java/lang/StringLatin1", "charAt", "([BI)C"⟩
def yChk : MethodName := ⟨"java/lang/String", "checkIndex", "(II)V"⟩
def yPre : MethodName := ⟨"jdk/internal/util/Preconditions", "checkIndex", "(IILjava/util/function/BiFunction;)I"⟩
theorem jw {w : Jvm.Cond} (i : Nat) (h : lwIs (i, w) = true) (g : goodWord w = true) : w ∈ gW := gW_of (lwIs_mem h) g
theorem j86 : Jvm.Cond.initialized "java/lang/String" ∈ gW := jw 86 (by decide +kernel) rfl
theorem j87 : Jvm.Cond.initialized "java/lang/StringLatin1" ∈ gW := jw 87 (by decide +kernel) rfl
theorem j88 : Jvm.Cond.initialized "jdk/internal/util/Preconditions" ∈ gW := jw 88 (by decide +kernel) rfl
theorem j636 : Jvm.Cond.instanceMethod yLen ∈ gW := jw 636 (by decide +kernel) rfl
theorem j637 : Jvm.Cond.selects "java/lang/String" yLen yLen ∈ gW := jw 637 (by decide +kernel) rfl
theorem j638 : Jvm.Cond.code yLen prog_17_method_54_code 1 (some .int) ∈ gW := jw 638 (by decide +kernel) rfl
theorem j639 : Jvm.Cond.methodLink "java/lang/String" 335 yCod ∈ gW := jw 639 (by decide +kernel) rfl
theorem j640 : Jvm.Cond.instanceMethod yCod ∈ gW := jw 640 (by decide +kernel) rfl
theorem j641 : Jvm.Cond.selects "java/lang/String" yCod yCod ∈ gW := jw 641 (by decide +kernel) rfl
theorem j642 : Jvm.Cond.code yCod prog_17_method_152_code 1 (some .byte) ∈ gW := jw 642 (by decide +kernel) rfl
theorem j643 : Jvm.Cond.fieldLink "java/lang/String" 38 "java/lang/String" "COMPACT_STRINGS" "Z" ∈ gW := jw 643 (by decide +kernel) rfl
theorem j646 : Jvm.Cond.instanceMethod yChr ∈ gW := jw 646 (by decide +kernel) rfl
theorem j647 : Jvm.Cond.selects "java/lang/String" yChr yChr ∈ gW := jw 647 (by decide +kernel) rfl
theorem j648 : Jvm.Cond.code yChr prog_17_method_56_code 2 (some .char) ∈ gW := jw 648 (by decide +kernel) rfl
theorem j649 : Jvm.Cond.methodLink "java/lang/String" 492 yLat ∈ gW := jw 649 (by decide +kernel) rfl
theorem j650 : Jvm.Cond.instanceMethod yLat ∈ gW := jw 650 (by decide +kernel) rfl
theorem j651 : Jvm.Cond.selects "java/lang/String" yLat yLat ∈ gW := jw 651 (by decide +kernel) rfl
theorem j652 : Jvm.Cond.code yLat prog_17_method_154_code 1 (some .boolean) ∈ gW := jw 652 (by decide +kernel) rfl
theorem j653 : Jvm.Cond.methodLink "java/lang/String" 495 yChL ∈ gW := jw 653 (by decide +kernel) rfl
theorem j654 : Jvm.Cond.static yChL ∈ gW := jw 654 (by decide +kernel) rfl
theorem j655 : Jvm.Cond.code yChL prog_18_method_2_code 2 (some .char) ∈ gW := jw 655 (by decide +kernel) rfl
theorem j656 : Jvm.Cond.methodLink "java/lang/StringLatin1" 9 yChk ∈ gW := jw 656 (by decide +kernel) rfl
theorem j657 : Jvm.Cond.static yChk ∈ gW := jw 657 (by decide +kernel) rfl
theorem j658 : Jvm.Cond.code yChk prog_17_method_155_code 2 none ∈ gW := jw 658 (by decide +kernel) rfl
theorem j659 : Jvm.Cond.fieldLink "java/lang/String" 1053 "jdk/internal/util/Preconditions" "SIOOBE_FORMATTER" "Ljava/util/function/BiFunction;" ∈ gW := jw 659 (by decide +kernel) rfl
theorem j661 : Jvm.Cond.methodLink "java/lang/String" 1059 yPre ∈ gW := jw 661 (by decide +kernel) rfl
theorem j662 : Jvm.Cond.static yPre ∈ gW := jw 662 (by decide +kernel) rfl
theorem j663 : Jvm.Cond.code yPre prog_22_method_11_code 3 (some .int) ∈ gW := jw 663 (by decide +kernel) rfl
theorem jF9 : Jvm.Cond.fieldLink "java/lang/String" 9 "java/lang/String" "value" "[B" ∈ gW := jw 1780 (by decide +kernel) rfl
theorem jF15 : Jvm.Cond.fieldLink "java/lang/String" 15 "java/lang/String" "coder" "B" ∈ gW := jw 1781 (by decide +kernel) rfl
theorem d152_0 : decode prog_17_method_152_code 0 = .ok (.getstatic 38, 3) := by decide +kernel
theorem d152_3 : decode prog_17_method_152_code 3 = .ok (.ifCond .eq 10, 3) := by decide +kernel
theorem d152_6 : decode prog_17_method_152_code 6 = .ok (.aload_n 0, 1) := by decide +kernel
theorem d152_7 : decode prog_17_method_152_code 7 = .ok (.getfield 15, 3) := by decide +kernel
theorem d152_10 : decode prog_17_method_152_code 10 = .ok (.goto 4, 3) := by decide +kernel
theorem d152_14 : decode prog_17_method_152_code 14 = .ok (.ireturn, 1) := by decide +kernel
theorem d154_0 : decode prog_17_method_154_code 0 = .ok (.getstatic 38, 3) := by decide +kernel
theorem d154_3 : decode prog_17_method_154_code 3 = .ok (.ifCond .eq 14, 3) := by decide +kernel
theorem d154_6 : decode prog_17_method_154_code 6 = .ok (.aload_n 0, 1) := by decide +kernel
theorem d154_7 : decode prog_17_method_154_code 7 = .ok (.getfield 15, 3) := by decide +kernel
theorem d154_10 : decode prog_17_method_154_code 10 = .ok (.ifCond .ne 7, 3) := by decide +kernel
theorem d154_13 : decode prog_17_method_154_code 13 = .ok (.iconst 1, 1) := by decide +kernel
theorem d154_14 : decode prog_17_method_154_code 14 = .ok (.goto 4, 3) := by decide +kernel
theorem d154_18 : decode prog_17_method_154_code 18 = .ok (.ireturn, 1) := by decide +kernel
theorem d54_0 : decode prog_17_method_54_code 0 = .ok (.aload_n 0, 1) := by decide +kernel
theorem d54_1 : decode prog_17_method_54_code 1 = .ok (.getfield 9, 3) := by decide +kernel
theorem d54_4 : decode prog_17_method_54_code 4 = .ok (.arraylength, 1) := by decide +kernel
theorem d54_5 : decode prog_17_method_54_code 5 = .ok (.aload_n 0, 1) := by decide +kernel
theorem d54_6 : decode prog_17_method_54_code 6 = .ok (.invokevirtual 335, 3) := by decide +kernel
theorem d54_9 : decode prog_17_method_54_code 9 = .ok (.ishr, 1) := by decide +kernel
theorem d54_10 : decode prog_17_method_54_code 10 = .ok (.ireturn, 1) := by decide +kernel
theorem d56_0 : decode prog_17_method_56_code 0 = .ok (.aload_n 0, 1) := by decide +kernel
theorem d56_1 : decode prog_17_method_56_code 1 = .ok (.invokevirtual 492, 3) := by decide +kernel
theorem d56_4 : decode prog_17_method_56_code 4 = .ok (.ifCond .eq 12, 3) := by decide +kernel
theorem d56_7 : decode prog_17_method_56_code 7 = .ok (.aload_n 0, 1) := by decide +kernel
theorem d56_8 : decode prog_17_method_56_code 8 = .ok (.getfield 9, 3) := by decide +kernel
theorem d56_11 : decode prog_17_method_56_code 11 = .ok (.iload_n 1, 1) := by decide +kernel
theorem d56_12 : decode prog_17_method_56_code 12 = .ok (.invokestatic 495, 3) := by decide +kernel
theorem d56_15 : decode prog_17_method_56_code 15 = .ok (.ireturn, 1) := by decide +kernel
theorem d18_0 : decode prog_18_method_2_code 0 = .ok (.iload_n 1, 1) := by decide +kernel
theorem d18_1 : decode prog_18_method_2_code 1 = .ok (.aload_n 0, 1) := by decide +kernel
theorem d18_2 : decode prog_18_method_2_code 2 = .ok (.arraylength, 1) := by decide +kernel
theorem d18_3 : decode prog_18_method_2_code 3 = .ok (.invokestatic 9, 3) := by decide +kernel
theorem d18_6 : decode prog_18_method_2_code 6 = .ok (.aload_n 0, 1) := by decide +kernel
theorem d18_7 : decode prog_18_method_2_code 7 = .ok (.iload_n 1, 1) := by decide +kernel
theorem d18_8 : decode prog_18_method_2_code 8 = .ok (.baload, 1) := by decide +kernel
theorem d18_9 : decode prog_18_method_2_code 9 = .ok (.sipush 255, 3) := by decide +kernel
theorem d18_12 : decode prog_18_method_2_code 12 = .ok (.iand, 1) := by decide +kernel
theorem d18_13 : decode prog_18_method_2_code 13 = .ok (.i2c, 1) := by decide +kernel
theorem d18_14 : decode prog_18_method_2_code 14 = .ok (.ireturn, 1) := by decide +kernel
theorem d155_0 : decode prog_17_method_155_code 0 = .ok (.iload_n 0, 1) := by decide +kernel
theorem d155_1 : decode prog_17_method_155_code 1 = .ok (.iload_n 1, 1) := by decide +kernel
theorem d155_2 : decode prog_17_method_155_code 2 = .ok (.getstatic 1053, 3) := by decide +kernel
theorem d155_5 : decode prog_17_method_155_code 5 = .ok (.invokestatic 1059, 3) := by decide +kernel
theorem d155_8 : decode prog_17_method_155_code 8 = .ok (.pop, 1) := by decide +kernel
theorem d155_9 : decode prog_17_method_155_code 9 = .ok (.return_, 1) := by decide +kernel
theorem d22_0 : decode prog_22_method_11_code 0 = .ok (.iload_n 0, 1) := by decide +kernel
theorem d22_1 : decode prog_22_method_11_code 1 = .ok (.ifCond .lt 8, 3) := by decide +kernel
theorem d22_4 : decode prog_22_method_11_code 4 = .ok (.iload_n 0, 1) := by decide +kernel
theorem d22_5 : decode prog_22_method_11_code 5 = .ok (.iload_n 1, 1) := by decide +kernel
theorem d22_6 : decode prog_22_method_11_code 6 = .ok (.if_icmp .lt 10, 3) := by decide +kernel
theorem d22_16 : decode prog_22_method_11_code 16 = .ok (.iload_n 0, 1) := by decide +kernel
theorem d22_17 : decode prog_22_method_11_code 17 = .ok (.ireturn, 1) := by decide +kernel
theorem gSj {own : String} {idx ml : Nat} {y : MethodName} {cc : ByteArray} {rt : Option FieldType} (h1 : Jvm.Cond.methodLink own idx y ∈ gW) (h2 : Jvm.Cond.static y ∈ gW) (h3 : Jvm.Cond.initialized y.cls ∈ gW) (h4 : Jvm.Cond.code y cc ml rt ∈ gW) : GoodIn gW (va_wsS own idx y (Jvm.Cond.code y cc ml rt :: gW)) := gW_in (fun w hw => by
  simp only [va_wsS, List.cons_append, List.nil_append, List.mem_cons] at hw
  rcases hw with rfl | rfl | rfl | rfl | hw
  · exact h1
  · exact h2
  · exact h3
  · exact h4
  · exact hw)
theorem gVj {own C : String} {idx ml : Nat} {y : MethodName} {cc : ByteArray} {rt : Option FieldType} (h1 : Jvm.Cond.methodLink own idx y ∈ gW) (h2 : Jvm.Cond.instanceMethod y ∈ gW) (h5 : Jvm.Cond.selects C y y ∈ gW) (h3 : Jvm.Cond.initialized C ∈ gW) (h4 : Jvm.Cond.code y cc ml rt ∈ gW) : GoodIn gW (wsV own idx C y (Jvm.Cond.code y cc ml rt :: gW)) := gW_in (fun w hw => by
  simp only [wsV, List.cons_append, List.nil_append, List.mem_cons] at hw
  rcases hw with rfl | rfl | rfl | rfl | rfl | hw
  · exact h1
  · exact h2
  · exact h5
  · exact h3
  · exact h4
  · exact hw)
theorem TW.go {aS aV : Nat} {u U : State} (h : TW aS aV u) (hvm : u.vm.Alike U.vm) (hH : ∀ a, a < u.heap.size → U.heap[a]? = u.heap[a]?) : TW aS aV U :=
  ⟨(vk_S.moved hvm h.1).kept (fun a ha _ => hH a ha), (va_Z.moved hvm h.2.1).kept (fun a ha _ => hH a ha), (va_Zq.moved hvm h.2.2).kept (fun a ha _ => hH a ha)⟩
theorem TW_blind {aS aV : Nat} {av : List Value} : FrameBlind (va_Pc av (TW aS aV)) := by
  intro a U g mk q
  obtain ⟨q0, q1⟩ := q
  exact ⟨q0, TW.go (u := U) (U := U.calling g mk a) q1 (Vm.Alike.refl U.vm) (fun _ _ => rfl)⟩
theorem T_blind {av : List Value} : FrameBlind (va_Pc av (fun _ => True)) := fun a U g mk q => ⟨q.1, trivial⟩
abbrev rmJ (f lo : Nat) : Room := { frames := f, cells := 0, slots := 0, locals := lo }
abbrev QiJ (v : Int32) : Array Value → State → Outcome → State → Prop := va_Qi (fun r (_ : Unit) => r = v) (fun _ _ => True) (fun _ => False)
abbrev QvJ : Array Value → State → Outcome → State → Prop := va_Qv (fun (_ : Unit) => True) (fun _ _ => True) (fun _ => False)
def wJ (y : MethodName) (cc : ByteArray) (ml : Nat) (rt : Option FieldType) : List Jvm.Cond := Jvm.Cond.code y cc ml rt :: gW
set_option maxHeartbeats 4000000 in
theorem cJ_cod (l : Launch) {aS aV : Nat} : Met l yCod (wJ yCod prog_17_method_152_code 1 (some .byte)) (rmJ 0 0) (va_Pc [.ref aS] (TW aS aV)) (QiJ 0) 0 0 (fun _ => False) := by
  refine Met.ofW (cc := prog_17_method_152_code) (maxL := 1) (ret := some .byte) (by decide) rfl ?_
  intro p e s m args below meth c s₁ B hml hv
  obtain ⟨rfl, hT⟩ := hv
  have hx := B.exec
  have hb := B.bytes
  have hr := B.returns
  have hlocks := B.notSynchronized
  have hts : ∀ w ∈ gW, w.before _ s = true := fun w hw => atoms_spec (ws := wJ yCod prog_17_method_152_code 1 (some .byte)) B.pre w (List.mem_cons_of_mem _ hw)
  have hown : s.vm.findClass "java/lang/String" = some m.cls := findClass_of_methodNamed B.named
  have hS : va_S (fun _ : Nat => False) s.heap s.heap [] := va_S.rf
  have hl := lv_entry ([.ref aS]) (n := 1) (Nat.le_of_ble_eq_true rfl)
  rw [lg_entry_eq]
  generalize (lg_sl ([.ref aS]) ++ List.replicate (1 - (lg_sl ([.ref aS])).length) Slot.unset).toArray = ls at hl ⊢
  have hl : lv_has ls 1 [(0, .ref aS)] := hl
  refine va_gets hx hb hT.2.1 hS hown (hts _ j643) (fun x h => h) d152_0 ?_
  refine lv_if_eq (tgt := 13) hx hb d152_3 (by decide) (fun h => absurd h (by decide)) (fun _ => ?_)
  refine lv_aload_n hx hb d152_6 rfl (lv_at hl 0 rfl) ?_
  refine vk_getf hx hb (hT.1.1 0 (by omega)).2.1 hS hown (hts _ jF15) (fun x h => h) d152_7 ?_
  refine lv_goto (tgt := 14) hx hb d152_10 (by decide) ?_
  exact W.zret hx hb hr rfl (fun t ht hW => ⟨⟨0, (), rfl, rfl, trivial⟩, hS.F ht⟩) hS.2.2 d152_14
set_option maxHeartbeats 4000000 in
theorem cJ_lat (l : Launch) {aS aV : Nat} : Met l yLat (wJ yLat prog_17_method_154_code 1 (some .boolean)) (rmJ 0 0) (va_Pc [.ref aS] (TW aS aV)) (QiJ 1) 0 0 (fun _ => False) := by
  refine Met.ofW (cc := prog_17_method_154_code) (maxL := 1) (ret := some .boolean) (by decide) rfl ?_
  intro p e s m args below meth c s₁ B hml hv
  obtain ⟨rfl, hT⟩ := hv
  have hx := B.exec
  have hb := B.bytes
  have hr := B.returns
  have hlocks := B.notSynchronized
  have hts : ∀ w ∈ gW, w.before _ s = true := fun w hw => atoms_spec (ws := wJ yLat prog_17_method_154_code 1 (some .boolean)) B.pre w (List.mem_cons_of_mem _ hw)
  have hown : s.vm.findClass "java/lang/String" = some m.cls := findClass_of_methodNamed B.named
  have hS : va_S (fun _ : Nat => False) s.heap s.heap [] := va_S.rf
  have hl := lv_entry ([.ref aS]) (n := 1) (Nat.le_of_ble_eq_true rfl)
  rw [lg_entry_eq]
  generalize (lg_sl ([.ref aS]) ++ List.replicate (1 - (lg_sl ([.ref aS])).length) Slot.unset).toArray = ls at hl ⊢
  have hl : lv_has ls 1 [(0, .ref aS)] := hl
  refine va_gets hx hb hT.2.1 hS hown (hts _ j643) (fun x h => h) d154_0 ?_
  refine lv_if_eq (tgt := 17) hx hb d154_3 (by decide) (fun h => absurd h (by decide)) (fun _ => ?_)
  refine lv_aload_n hx hb d154_6 rfl (lv_at hl 0 rfl) ?_
  refine vk_getf hx hb (hT.1.1 0 (by omega)).2.1 hS hown (hts _ jF15) (fun x h => h) d154_7 ?_
  refine lv_if_ne (tgt := 17) hx hb d154_10 (by decide) (fun h => absurd rfl h) (fun _ => ?_)
  refine lv_iconst (v := 1) hx hb d154_13 (by decide) ?_
  refine lv_goto (tgt := 18) hx hb d154_14 (by decide) ?_
  exact W.zret hx hb hr rfl (fun t ht hW => ⟨⟨1, (), rfl, rfl, trivial⟩, hS.F ht⟩) hS.2.2 d154_18
set_option maxHeartbeats 4000000 in
theorem cJ_pre (l : Launch) {i n : Int32} {r : Option Nat} (h0 : ¬ i < 0) (h1 : i < n) : Met l yPre (wJ yPre prog_22_method_11_code 3 (some .int)) (rmJ 0 0) (va_Pc [.int i, .int n, va_rf r] (fun _ => True)) (QiJ i) 0 0 (fun _ => False) := by
  refine Met.ofW (cc := prog_22_method_11_code) (maxL := 3) (ret := some .int) (by decide) rfl ?_
  intro p e s m args below meth c s₁ B hml hv
  obtain ⟨rfl, -⟩ := hv
  have hx := B.exec
  have hb := B.bytes
  have hr := B.returns
  have hlocks := B.notSynchronized
  have hS : va_S (fun _ : Nat => False) s.heap s.heap [] := va_S.rf
  have hl : ∃ ls, ls = (lg_sl ([.int i, .int n, va_rf r]) ++ List.replicate (3 - (lg_sl ([.int i, .int n, va_rf r])).length) Slot.unset).toArray ∧ lv_has ls 3 [(0, .int i), (1, .int n)] := by
    cases r with
    | none => exact ⟨_, rfl, lv_mono (lv_entry ([.int i, .int n, .null]) (n := 3) (Nat.le_of_ble_eq_true rfl)) (by intro q hq; simp only [List.mem_cons, List.not_mem_nil, or_false] at hq; rcases hq with rfl | rfl <;> simp [lv_args, Value.category])⟩
    | some t => exact ⟨_, rfl, lv_mono (lv_entry ([.int i, .int n, .ref t]) (n := 3) (Nat.le_of_ble_eq_true rfl)) (by intro q hq; simp only [List.mem_cons, List.not_mem_nil, or_false] at hq; rcases hq with rfl | rfl <;> simp [lv_args, Value.category])⟩
  obtain ⟨ls, hls, hl⟩ := hl
  rw [lg_entry_eq, ← hls]
  refine lv_iload_n hx hb d22_0 rfl (lv_at hl 0 rfl) ?_
  refine lv_if_lt (tgt := 9) hx hb d22_1 (by decide) (fun h => absurd h h0) (fun _ => ?_)
  refine lv_iload_n hx hb d22_4 rfl (lv_at hl 0 rfl) ?_
  refine lv_iload_n hx hb d22_5 rfl (lv_at hl 1 rfl) ?_
  refine lv_icmp_lt (tgt := 16) hx hb d22_6 (by decide) (fun _ => ?_) (fun h => absurd h1 h)
  refine lv_iload_n hx hb d22_16 rfl (lv_at hl 0 rfl) ?_
  exact W.iret hx hb hr (fun t ht hW => ⟨⟨i, (), rfl, rfl, trivial⟩, hS.F ht⟩) hS.2.2 d22_17
set_option maxHeartbeats 4000000 in
theorem cJ_chk (l : Launch) {i n : Int32} {aS aV : Nat} (h0 : ¬ i < 0) (h1 : i < n) : Met l yChk (wJ yChk prog_17_method_155_code 2 none) (rmJ 1 22) (va_Pc [.int i, .int n] (TW aS aV)) QvJ 0 0 (fun _ => False) := by
  refine Met.ofW (cc := prog_17_method_155_code) (maxL := 2) (ret := none) (by decide) rfl ?_
  intro p e s m args below meth c s₁ B hml hv
  obtain ⟨rfl, hT⟩ := hv
  have hx := B.exec
  have hb := B.bytes
  have hr := B.returns
  have hlocks := B.notSynchronized
  have hts : ∀ w ∈ gW, w.before _ s = true := fun w hw => atoms_spec (ws := wJ yChk prog_17_method_155_code 2 none) B.pre w (List.mem_cons_of_mem _ hw)
  have hown : s.vm.findClass "java/lang/String" = some m.cls := findClass_of_methodNamed B.named
  have hS : va_S (fun _ : Nat => False) s.heap s.heap [] := va_S.rf
  have hl := lv_entry ([.int i, .int n]) (n := 2) (Nat.le_of_ble_eq_true rfl)
  rw [lg_entry_eq]
  generalize (lg_sl ([.int i, .int n]) ++ List.replicate (2 - (lg_sl ([.int i, .int n])).length) Slot.unset).toArray = ls at hl ⊢
  have hl : lv_has ls 2 [(0, .int i), (1, .int n)] := hl
  obtain ⟨r, hZ⟩ : ∃ r, va_Z "jdk/internal/util/Preconditions" "SIOOBE_FORMATTER" "Ljava/util/function/BiFunction;" (va_rf r) (fun _ => False) s s.heap := by
    rcases hT.2.2 with h | ⟨t, h⟩
    · exact ⟨none, h⟩
    · exact ⟨some t, h⟩
  refine lv_iload_n hx hb d155_0 rfl (lv_at hl 0 rfl) ?_
  refine lv_iload_n hx hb d155_1 rfl (lv_at hl 1 rfl) ?_
  refine va_gets hx hb hZ hS hown (hts _ j659) (fun x h => h) d155_2 ?_
  refine va_calli (A1 := fun _ => False) (va_runS (As := [.int i, .int n, va_rf r]) (rest := []) ⟨hx, hb, hml, hown, hts⟩ (cJ_pre l h0 h1) (va_cwS 3 hts (gSj j661 j662 j88 j663) rfl rfl rfl (by decide +kernel) ⟨Nat.le_of_ble_eq_true rfl, Nat.le_of_ble_eq_true rfl⟩) ⟨T_blind, fun U hU hW => ⟨rfl, trivial⟩⟩ rfl rfl hl.1 rfl (lv_room (Nat.le_of_ble_eq_true rfl)) d155_5 ⟨Nat.le_of_ble_eq_true rfl, Nat.le_of_ble_eq_true rfl⟩) hS (fun q _ h => h) (fun q h => h) (fun x u t H1 locs ht hvm hp hB hz1 hk1 hS => ?_)
  refine lv_pop hx hb d155_8 rfl ?_
  exact W.vret hx hb hr (fun t ht hW => ⟨⟨(), rfl, trivial, trivial⟩, hS.F ht⟩) hS.2.2 d155_9
theorem pTB_at : ∀ k : Nat, k < 90 → (((((fun j => ([pTB].getD 0 []).getD j 0) k : Int32) &&& 255).toUInt32 % 65536).toInt32 = pTC k) ∧ ((pTC k).toUInt32 % 65536).toInt32 = pTC k := by decide +kernel
theorem chr_nar {k : Nat} (h : k < 90) : narrow .char (.int (pTC k)) = .int (pTC k) := congrArg Value.int (pTB_at k h).2
set_option maxHeartbeats 4000000 in
theorem cJ_chl (l : Launch) {i : Int32} {k aS aV : Nat} (hi : i = Int32.ofNat k) (hk : k < 90) : Met l yChL (wJ yChL prog_18_method_2_code 2 (some .char)) (rmJ 2 43) (va_Pc [.ref aV, .int i] (TW aS aV)) (QiJ (pTC k)) 0 0 (fun _ => False) := by
  have h0 : ¬ i < 0 := by rw [hi, Int32.lt_iff_toInt_lt, Int32.toInt_ofNat_of_lt (by omega)]; show ¬ (k : Int) < 0; omega
  have h1 : i < 90 := by rw [hi, Int32.lt_iff_toInt_lt, Int32.toInt_ofNat_of_lt (by omega)]; show (k : Int) < 90; omega
  have hc : i.toNatClampNeg = k := by rw [hi]; exact Int32.toNatClampNeg_ofNat_of_lt (by omega)
  refine Met.ofW (cc := prog_18_method_2_code) (maxL := 2) (ret := some .char) (by decide) rfl ?_
  intro p e s m args below meth c s₁ B hml hv
  obtain ⟨rfl, hT⟩ := hv
  have hx := B.exec
  have hb := B.bytes
  have hr := B.returns
  have hlocks := B.notSynchronized
  have hts : ∀ w ∈ gW, w.before _ s = true := fun w hw => atoms_spec (ws := wJ yChL prog_18_method_2_code 2 (some .char)) B.pre w (List.mem_cons_of_mem _ hw)
  have hown : s.vm.findClass "java/lang/StringLatin1" = some m.cls := findClass_of_methodNamed B.named
  have hS : va_S (fun _ : Nat => False) s.heap s.heap [] := va_S.rf
  have hl := lv_entry ([.ref aV, .int i]) (n := 2) (Nat.le_of_ble_eq_true rfl)
  rw [lg_entry_eq]
  generalize (lg_sl ([.ref aV, .int i]) ++ List.replicate (2 - (lg_sl ([.ref aV, .int i])).length) Slot.unset).toArray = ls at hl ⊢
  have hl : lv_has ls 2 [(0, .ref aV), (1, .int i)] := hl
  have hTb := (hT.1.1 0 (by omega)).2.2.2
  refine lv_iload_n hx hb d18_0 rfl (lv_at hl 1 rfl) ?_
  refine lv_aload_n hx hb d18_1 rfl (lv_at hl 0 rfl) ?_
  refine va_tlen (v := 90) hx hb hTb hS rfl d18_2 ?_
  refine va_callv (A1 := fun _ => False) (va_runS (As := [.int i, .int 90]) (rest := []) ⟨hx, hb, hml, hown, hts⟩ (cJ_chk l (aS := aS) (aV := aV) h0 h1) (va_cwS 2 hts (gSj j656 j657 j86 j658) rfl rfl rfl (by decide +kernel) ⟨Nat.le_of_ble_eq_true rfl, Nat.le_of_ble_eq_true rfl⟩) ⟨TW_blind, fun U hU hW => ⟨rfl, hT.go hW.alike (fun a _ => by rw [hU])⟩⟩ rfl rfl hl.1 rfl (lv_room (Nat.le_of_ble_eq_true rfl)) d18_3 ⟨Nat.le_of_ble_eq_true rfl, Nat.le_of_ble_eq_true rfl⟩) hS (fun q _ h => h) (fun q h => h) (fun u t H1 locs ht hvm hp hB hz1 hk1 hS => ?_)
  refine lv_aload_n hx hb d18_6 rfl (lv_at hl 0 rfl) ?_
  refine lv_iload_n hx hb d18_7 rfl (lv_at hl 1 rfl) ?_
  refine va_tb (v := .int (([pTB].getD 0 []).getD k 0)) hx hb hTb hS (show ¬ (i < 0 ∨ 90 ≤ i.toNatClampNeg) from fun h => by rw [hc] at h; rcases h with h | h; exact h0 h; omega) (by rw [hc]) d18_8 ?_
  refine lv_sipush (v := 255) hx hb d18_9 (by decide) ?_
  refine lv_iand hx hb d18_12 ?_
  refine lv_i2c (v := pTC k) hx hb d18_13 (pTB_at k hk).1 ?_
  exact W.zret hx hb hr (chr_nar hk) (fun t ht hW => ⟨⟨pTC k, (), rfl, rfl, trivial⟩, hS.F ht⟩) hS.2.2 d18_14
set_option maxHeartbeats 4000000 in
theorem cJ_chr (l : Launch) {i : Int32} {k aS aV : Nat} (hi : i = Int32.ofNat k) (hk : k < 90) : Met l yChr (wJ yChr prog_17_method_56_code 2 (some .char)) (rmJ 3 64) (va_Pc [.ref aS, .int i] (TW aS aV)) (QiJ (pTC k)) 0 0 (fun _ => False) := by
  refine Met.ofW (cc := prog_17_method_56_code) (maxL := 2) (ret := some .char) (by decide) rfl ?_
  intro p e s m args below meth c s₁ B hml hv
  obtain ⟨rfl, hT⟩ := hv
  have hx := B.exec
  have hb := B.bytes
  have hr := B.returns
  have hlocks := B.notSynchronized
  have hts : ∀ w ∈ gW, w.before _ s = true := fun w hw => atoms_spec (ws := wJ yChr prog_17_method_56_code 2 (some .char)) B.pre w (List.mem_cons_of_mem _ hw)
  have hown : s.vm.findClass "java/lang/String" = some m.cls := findClass_of_methodNamed B.named
  have hS : va_S (fun _ : Nat => False) s.heap s.heap [] := va_S.rf
  have hl := lv_entry ([.ref aS, .int i]) (n := 2) (Nat.le_of_ble_eq_true rfl)
  rw [lg_entry_eq]
  generalize (lg_sl ([.ref aS, .int i]) ++ List.replicate (2 - (lg_sl ([.ref aS, .int i])).length) Slot.unset).toArray = ls at hl ⊢
  have hl : lv_has ls 2 [(0, .ref aS), (1, .int i)] := hl
  refine lv_aload_n hx hb d56_0 rfl (lv_at hl 0 rfl) ?_
  refine va_calli (A1 := fun _ => False) (va_runV (As := []) (rest := []) ⟨hx, hb, hml, hown, hts⟩ (cJ_lat l (aS := aS) (aV := aV)) (cwV 0 hts (gVj j649 j650 j651 j86 j652) rfl rfl rfl (by decide +kernel) ⟨Nat.le_of_ble_eq_true rfl, Nat.le_of_ble_eq_true rfl⟩) ⟨TW_blind, vk_recv (i := 0) hT.1 (by omega) hS, fun U hU hW => ⟨rfl, hT.go hW.alike (fun a _ => by rw [hU])⟩⟩ rfl rfl hl.1 rfl (lv_room (Nat.le_of_ble_eq_true rfl)) d56_1 ⟨Nat.le_of_ble_eq_true rfl, Nat.le_of_ble_eq_true rfl⟩) hS (fun q _ h => h) (fun q h => h) (fun x u t H1 locs ht hvm hp hB hz1 hk1 hS => ?_)
  subst hp
  refine lv_if_eq (tgt := 16) hx hb d56_4 (by decide) (fun h => absurd h (by decide)) (fun _ => ?_)
  refine lv_aload_n hx hb d56_7 rfl (lv_at hl 0 rfl) ?_
  refine vk_getf hx hb (hT.1.1 0 (by omega)).2.2.1 hS hown (hts _ jF9) (fun x h => h) d56_8 ?_
  refine lv_iload_n hx hb d56_11 rfl (lv_at hl 1 rfl) ?_
  refine va_calli (A1 := fun _ => False) (va_runS (As := [.ref aV, .int i]) (rest := []) ⟨hx, hb, hml, hown, hts⟩ (cJ_chl l (aS := aS) (aV := aV) hi hk) (va_cwS 2 hts (gSj j653 j654 j87 j655) rfl rfl rfl (by decide +kernel) ⟨Nat.le_of_ble_eq_true rfl, Nat.le_of_ble_eq_true rfl⟩) ⟨TW_blind, fun U hU hW => ⟨rfl, hT.go hW.alike (fun a ha => by rw [hU]; exact hS.2.1 a ha (fun h => h))⟩⟩ rfl rfl hl.1 rfl (lv_room (Nat.le_of_ble_eq_true rfl)) d56_12 ⟨Nat.le_of_ble_eq_true rfl, Nat.le_of_ble_eq_true rfl⟩) hS (fun q _ h => h) (fun q h => h) (fun x u t H1 locs ht hvm hp hB hz1 hk1 hS => ?_)
  subst hp
  exact W.zret hx hb hr (chr_nar hk) (fun t ht hW => ⟨⟨pTC k, (), rfl, rfl, trivial⟩, hS.F ht⟩) hS.2.2 d56_15
set_option maxHeartbeats 4000000 in
theorem cJ_len (l : Launch) {aS aV : Nat} : Met l yLen (wJ yLen prog_17_method_54_code 1 (some .int)) (rmJ 1 20) (va_Pc [.ref aS] (TW aS aV)) (QiJ 90) 0 0 (fun _ => False) := by
  refine Met.ofW (cc := prog_17_method_54_code) (maxL := 1) (ret := some .int) (by decide) rfl ?_
  intro p e s m args below meth c s₁ B hml hv
  obtain ⟨rfl, hT⟩ := hv
  have hx := B.exec
  have hb := B.bytes
  have hr := B.returns
  have hlocks := B.notSynchronized
  have hts : ∀ w ∈ gW, w.before _ s = true := fun w hw => atoms_spec (ws := wJ yLen prog_17_method_54_code 1 (some .int)) B.pre w (List.mem_cons_of_mem _ hw)
  have hown : s.vm.findClass "java/lang/String" = some m.cls := findClass_of_methodNamed B.named
  have hS : va_S (fun _ : Nat => False) s.heap s.heap [] := va_S.rf
  have hl := lv_entry ([.ref aS]) (n := 1) (Nat.le_of_ble_eq_true rfl)
  rw [lg_entry_eq]
  generalize (lg_sl ([.ref aS]) ++ List.replicate (1 - (lg_sl ([.ref aS])).length) Slot.unset).toArray = ls at hl ⊢
  have hl : lv_has ls 1 [(0, .ref aS)] := hl
  refine lv_aload_n hx hb d54_0 rfl (lv_at hl 0 rfl) ?_
  refine vk_getf hx hb (hT.1.1 0 (by omega)).2.2.1 hS hown (hts _ jF9) (fun x h => h) d54_1 ?_
  refine va_tlen (v := 90) hx hb (hT.1.1 0 (by omega)).2.2.2 hS rfl d54_4 ?_
  refine lv_aload_n hx hb d54_5 rfl (lv_at hl 0 rfl) ?_
  refine va_calli (A1 := fun _ => False) (va_runV (As := []) (rest := [.int 90]) ⟨hx, hb, hml, hown, hts⟩ (cJ_cod l (aS := aS) (aV := aV)) (cwV 0 hts (gVj j639 j640 j641 j86 j642) rfl rfl rfl (by decide +kernel) ⟨Nat.le_of_ble_eq_true rfl, Nat.le_of_ble_eq_true rfl⟩) ⟨TW_blind, vk_recv (i := 0) hT.1 (by omega) hS, fun U hU hW => ⟨rfl, hT.go hW.alike (fun a _ => by rw [hU])⟩⟩ rfl rfl hl.1 rfl (lv_room (Nat.le_of_ble_eq_true rfl)) d54_6 ⟨Nat.le_of_ble_eq_true rfl, Nat.le_of_ble_eq_true rfl⟩) hS (fun q _ h => h) (fun q h => h) (fun x u t H1 locs ht hvm hp hB hz1 hk1 hS => ?_)
  subst hp
  refine lv_ishr hx hb d54_9 ?_
  exact W.iret hx hb hr (fun t ht hW => ⟨⟨90, (), rfl, rfl, trivial⟩, hS.F ht⟩) hS.2.2 d54_10
/-- a row of calls that is the text's length or charAt -/
def jk (c : pCT) : Bool := (bif Nat.beq c.2.2.1 9 then decide (c.2.2.2.2.1 = yLen) && Nat.beq c.2.2.2.1 0 else true) && (bif Nat.beq c.2.2.1 10 then decide (c.2.2.2.2.1 = yChr) else true)
theorem jk0 : pC_0.all jk = true := by decide +kernel
theorem jk1 : pC_1.all jk = true := by decide +kernel
theorem jk2 : pC_2.all jk = true := by decide +kernel
theorem jk3 : pC_3.all jk = true := by decide +kernel
theorem jk4 : pC_4.all jk = true := by decide +kernel
theorem jk5 : pC_5.all jk = true := by decide +kernel
theorem jk6 : pC_6.all jk = true := by decide +kernel
theorem jk7 : pC_7.all jk = true := by decide +kernel
theorem jk8 : pC_8.all jk = true := by decide +kernel
def jG (o : Option pCT) : Prop := ∀ c, o = some c → jk c = true
theorem jGc {o1 o2 : Option pCT} {b : Bool} (h1 : jG o1) (h2 : jG o2) : jG (bif b then o1 else o2) := by cases b <;> assumption
theorem jGl {cs : List pCT} (h : cs.all jk = true) (j : Nat) : jG cs[j]? := fun c hc => List.all_eq_true.mp h c (List.mem_of_getElem? hc)
theorem jk_ok (j : Nat) : jG (pC j) := (jGc (jGc (jGc (jGl jk0 _) (jGl jk1 _)) (jGc (jGl jk2 _) (jGl jk3 _))) (jGc (jGc (jGl jk4 _) (jGl jk5 _)) (jGc (jGl jk6 _) (jGc (jGl jk7 _) (jGl jk8 _)))))
theorem jk_9 {a : Nat} {c : pCT} (h : pC a = some c) (hk : c.2.2.1 = 9) : c.2.2.2.2.1 = yLen ∧ c.2.2.2.1 = 0 := by
  have h1 := jk_ok a c h
  unfold jk at h1
  rw [hk] at h1
  rw [Bool.and_eq_true] at h1
  have h2 : (decide (c.2.2.2.2.1 = yLen) && Nat.beq c.2.2.2.1 0) = true := h1.1
  rw [Bool.and_eq_true] at h2
  exact ⟨of_decide_eq_true h2.1, natb h2.2⟩
theorem jk_10 {a : Nat} {c : pCT} (h : pC a = some c) (hk : c.2.2.1 = 10) : c.2.2.2.2.1 = yChr := by
  have h1 := jk_ok a c h
  unfold jk at h1
  rw [hk] at h1
  rw [Bool.and_eq_true] at h1
  have h2 := h1.2
  exact of_decide_eq_true h2
