def LAWN : Nat := 287
def lwAt (i : Nat) : Option Jvm.Cond := bif Nat.blt i 71 then (k2_sels lw_privs)[i]? else (bif Nat.blt i 1031 then (bif Nat.blt i 551 then (bif Nat.blt i 311 then tables_1_1[i - 71]? else tables_1_2[i - 311]?) else (bif Nat.blt i 791 then tables_1_3[i - 551]? else tables_1_4[i - 791]?)) else (bif Nat.blt i 1511 then (bif Nat.blt i 1271 then tables_1_5[i - 1031]? else tables_1_6[i - 1271]?) else (bif Nat.blt i 1751 then tables_1_7[i - 1511]? else tables_1_8[i - 1751]?)))
theorem lwc {o1 o2 : Option Jvm.Cond} {b : Bool} (h1 : ∀ w, o1 = some w → w ∈ lw_tbl) (h2 : ∀ w, o2 = some w → w ∈ lw_tbl) : ∀ w, (bif b then o1 else o2) = some w → w ∈ lw_tbl := by cases b <;> assumption
theorem lwm0 {i : Nat} : ∀ w, tables_1_1[i]? = some w → w ∈ lw_tbl := fun w h => by have h := List.mem_of_getElem? h; unfold lw_tbl tables_1; exact List.mem_append_right _ (List.mem_append_left _ h)
theorem lwm1 {i : Nat} : ∀ w, tables_1_2[i]? = some w → w ∈ lw_tbl := fun w h => by have h := List.mem_of_getElem? h; unfold lw_tbl tables_1; exact List.mem_append_right _ (List.mem_append_right _ (List.mem_append_left _ h))
theorem lwm2 {i : Nat} : ∀ w, tables_1_3[i]? = some w → w ∈ lw_tbl := fun w h => by have h := List.mem_of_getElem? h; unfold lw_tbl tables_1; exact List.mem_append_right _ (List.mem_append_right _ (List.mem_append_right _ (List.mem_append_left _ h)))
theorem lwm3 {i : Nat} : ∀ w, tables_1_4[i]? = some w → w ∈ lw_tbl := fun w h => by have h := List.mem_of_getElem? h; unfold lw_tbl tables_1; exact List.mem_append_right _ (List.mem_append_right _ (List.mem_append_right _ (List.mem_append_right _ (List.mem_append_left _ h))))
theorem lwm4 {i : Nat} : ∀ w, tables_1_5[i]? = some w → w ∈ lw_tbl := fun w h => by have h := List.mem_of_getElem? h; unfold lw_tbl tables_1; exact List.mem_append_right _ (List.mem_append_right _ (List.mem_append_right _ (List.mem_append_right _ (List.mem_append_right _ (List.mem_append_left _ h)))))
theorem lwm5 {i : Nat} : ∀ w, tables_1_6[i]? = some w → w ∈ lw_tbl := fun w h => by have h := List.mem_of_getElem? h; unfold lw_tbl tables_1; exact List.mem_append_right _ (List.mem_append_right _ (List.mem_append_right _ (List.mem_append_right _ (List.mem_append_right _ (List.mem_append_right _ (List.mem_append_left _ h))))))
theorem lwm6 {i : Nat} : ∀ w, tables_1_7[i]? = some w → w ∈ lw_tbl := fun w h => by have h := List.mem_of_getElem? h; unfold lw_tbl tables_1; exact List.mem_append_right _ (List.mem_append_right _ (List.mem_append_right _ (List.mem_append_right _ (List.mem_append_right _ (List.mem_append_right _ (List.mem_append_right _ (List.mem_append_left _ h)))))))
theorem lwm7 {i : Nat} : ∀ w, tables_1_8[i]? = some w → w ∈ lw_tbl := fun w h => by have h := List.mem_of_getElem? h; unfold lw_tbl tables_1; exact List.mem_append_right _ (List.mem_append_right _ (List.mem_append_right _ (List.mem_append_right _ (List.mem_append_right _ (List.mem_append_right _ (List.mem_append_right _ (List.mem_append_right _ (h))))))))
theorem lwAt_mem {i : Nat} : ∀ w, lwAt i = some w → w ∈ lw_tbl := lwc (fun w h => List.mem_append_left _ (List.mem_of_getElem? h)) (lwc (lwc (lwc lwm0 lwm1) (lwc lwm2 lwm3)) (lwc (lwc lwm4 lwm5) (lwc lwm6 lwm7)))
def lwIs (q : Nat × Jvm.Cond) : Bool := decide (lwAt q.1 = some q.2)
theorem lwIs_mem {q : Nat × Jvm.Cond} (h : lwIs q = true) : q.2 ∈ lw_tbl := lwAt_mem _ (of_decide_eq_true h)
def lwAll (is : List Nat) (ws : List Jvm.Cond) : Bool := decide (is.length = ws.length) && (is.zip ws).all lwIs
theorem lwAll_mem {is : List Nat} {ws : List Jvm.Cond} (h : lwAll is ws = true) : ∀ w ∈ ws, w ∈ lw_tbl := by
  intro w hw
  unfold lwAll at h
  rw [Bool.and_eq_true, decide_eq_true_eq] at h
  obtain ⟨i, hi, hw⟩ := List.getElem_of_mem hw
  have h1 := List.all_eq_true.mp h.2 (is[i], ws[i]) (by rw [← List.getElem_zip (h := by rw [List.length_zip]; omega)]; exact List.getElem_mem _)
  have := lwIs_mem h1
  rw [← hw]
  exact this
theorem pcw0 : lwAll [427, 428, 429, 430, 431, 432] (u_ws "NotYetSaid$Biscuit" pT0 6) = true := by decide +kernel
theorem pct0 : ∀ k, k < 6 → parseFieldDescriptor (pT0 k).2.2.1 = some (pY0 k) := by decide +kernel
theorem pcn0 : ∀ a, a < 6 → ∀ b, b < 6 → a ≠ b → (pT0 a).2.1 ≠ (pT0 b).2.1 := by decide +kernel
theorem pcd0 : ∀ k, k < 6 → defaultValue (pY0 k) = vp_V (pD 0) k := by decide +kernel
theorem pcw1 : lwAll [401, 402, 403, 404, 405, 406] (u_ws "NotYetSaid$Game" pT1 6) = true := by decide +kernel
theorem pct1 : ∀ k, k < 6 → parseFieldDescriptor (pT1 k).2.2.1 = some (pY1 k) := by decide +kernel
theorem pcn1 : ∀ a, a < 6 → ∀ b, b < 6 → a ≠ b → (pT1 a).2.1 ≠ (pT1 b).2.1 := by decide +kernel
theorem pcd1 : ∀ k, k < 6 → defaultValue (pY1 k) = vp_V (pD 1) k := by decide +kernel
theorem pcw2 : lwAll [280, 282, 284, 286, 288, 290, 292, 294] (u_ws "NotYetSaid$Host" pT2 8) = true := by decide +kernel
theorem pct2 : ∀ k, k < 8 → parseFieldDescriptor (pT2 k).2.2.1 = some (pY2 k) := by decide +kernel
theorem pcn2 : ∀ a, a < 8 → ∀ b, b < 8 → a ≠ b → (pT2 a).2.1 ≠ (pT2 b).2.1 := by decide +kernel
theorem pcd2 : ∀ k, k < 8 → defaultValue (pY2 k) = vp_V (pD 2) k := by decide +kernel
theorem pcw3 : lwAll [173, 175, 177, 179, 181, 183, 185, 187, 189, 191, 193, 195, 197, 199] (u_ws "NotYetSaid$Ride" pT3 14) = true := by decide +kernel
theorem pct3 : ∀ k, k < 14 → parseFieldDescriptor (pT3 k).2.2.1 = some (pY3 k) := by decide +kernel
theorem pcn3 : ∀ a, a < 14 → ∀ b, b < 14 → a ≠ b → (pT3 a).2.1 ≠ (pT3 b).2.1 := by decide +kernel
theorem pcd3 : ∀ k, k < 14 → defaultValue (pY3 k) = vp_V (pD 3) k := by decide +kernel
theorem pcw4 : lwAll [243, 245, 247, 249, 251, 253, 255, 257] (u_ws "NotYetSaid$RuleReader" pT4 8) = true := by decide +kernel
theorem pct4 : ∀ k, k < 8 → parseFieldDescriptor (pT4 k).2.2.1 = some (pY4 k) := by decide +kernel
theorem pcn4 : ∀ a, a < 8 → ∀ b, b < 8 → a ≠ b → (pT4 a).2.1 ≠ (pT4 b).2.1 := by decide +kernel
theorem pcd4 : ∀ k, k < 8 → defaultValue (pY4 k) = vp_V (pD 4) k := by decide +kernel
theorem pcw5 : lwAll [127, 129, 131, 133, 135, 137, 139, 141, 143] (u_ws "NotYetSaid$Rules" pT5 9) = true := by decide +kernel
theorem pct5 : ∀ k, k < 9 → parseFieldDescriptor (pT5 k).2.2.1 = some (pY5 k) := by decide +kernel
theorem pcn5 : ∀ a, a < 9 → ∀ b, b < 9 → a ≠ b → (pT5 a).2.1 ≠ (pT5 b).2.1 := by decide +kernel
theorem pcd5 : ∀ k, k < 9 → defaultValue (pY5 k) = vp_V (pD 5) k := by decide +kernel
theorem pcw6 : lwAll [214, 216, 218, 220, 222, 224] (u_ws "NotYetSaid$Search" pT6 6) = true := by decide +kernel
theorem pct6 : ∀ k, k < 6 → parseFieldDescriptor (pT6 k).2.2.1 = some (pY6 k) := by decide +kernel
theorem pcn6 : ∀ a, a < 6 → ∀ b, b < 6 → a ≠ b → (pT6 a).2.1 ≠ (pT6 b).2.1 := by decide +kernel
theorem pcd6 : ∀ k, k < 6 → defaultValue (pY6 k) = vp_V (pD 6) k := by decide +kernel
theorem pcw7 : lwAll [414, 415, 416, 417, 418, 419] (u_ws "NotYetSaid$Song" pT7 6) = true := by decide +kernel
theorem pct7 : ∀ k, k < 6 → parseFieldDescriptor (pT7 k).2.2.1 = some (pY7 k) := by decide +kernel
theorem pcn7 : ∀ a, a < 6 → ∀ b, b < 6 → a ≠ b → (pT7 a).2.1 ≠ (pT7 b).2.1 := by decide +kernel
theorem pcd7 : ∀ k, k < 6 → defaultValue (pY7 k) = vp_V (pD 7) k := by decide +kernel
theorem pcw8 : lwAll [382, 384, 386, 388, 390, 392] (u_ws "NotYetSaid$Soon" pT8 6) = true := by decide +kernel
theorem pct8 : ∀ k, k < 6 → parseFieldDescriptor (pT8 k).2.2.1 = some (pY8 k) := by decide +kernel
theorem pcn8 : ∀ a, a < 6 → ∀ b, b < 6 → a ≠ b → (pT8 a).2.1 ≠ (pT8 b).2.1 := by decide +kernel
theorem pcd8 : ∀ k, k < 6 → defaultValue (pY8 k) = vp_V (pD 8) k := by decide +kernel
theorem pcw9 : lwAll [440, 441, 442, 443, 444, 445] (u_ws "NotYetSaid$Stop" pT9 6) = true := by decide +kernel
theorem pct9 : ∀ k, k < 6 → parseFieldDescriptor (pT9 k).2.2.1 = some (pY9 k) := by decide +kernel
theorem pcn9 : ∀ a, a < 6 → ∀ b, b < 6 → a ≠ b → (pT9 a).2.1 ≠ (pT9 b).2.1 := by decide +kernel
theorem pcd9 : ∀ k, k < 6 → defaultValue (pY9 k) = vp_V (pD 9) k := by decide +kernel
theorem pcw10 : lwAll [307, 309, 311, 313, 315, 317, 319, 321, 323, 325] (u_ws "NotYetSaid" pT10 10) = true := by decide +kernel
theorem pct10 : ∀ k, k < 10 → parseFieldDescriptor (pT10 k).2.2.1 = some (pY10 k) := by decide +kernel
theorem pcn10 : ∀ a, a < 10 → ∀ b, b < 10 → a ≠ b → (pT10 a).2.1 ≠ (pT10 b).2.1 := by decide +kernel
theorem pcd10 : ∀ k, k < 10 → defaultValue (pY10 k) = vp_V (pD 10) k := by decide +kernel
theorem pcw11 : lwAll [1224, 1226, 1228, 1230, 1232, 1234, 1236, 1238, 1240, 1242, 1244, 1246, 1248, 1250, 1252, 1254, 1256, 1258, 1260, 1262, 1264, 1266, 1268, 1270, 1272, 1274, 1276, 1278, 1280, 1282, 1284, 1286] (u_ws "NotYetSaidModel" pT11 32) = true := by decide +kernel
theorem pct11 : ∀ k, k < 32 → parseFieldDescriptor (pT11 k).2.2.1 = some (pY11 k) := by decide +kernel
theorem pcn11 : ∀ a, a < 32 → ∀ b, b < 32 → a ≠ b → (pT11 a).2.1 ≠ (pT11 b).2.1 := by decide +kernel
theorem pcd11 : ∀ k, k < 32 → defaultValue (pY11 k) = vp_V (pD 11) k := by decide +kernel
def clOk (ci : Nat) (q : vw_C) : Prop := (∀ w ∈ u_ws q.1 q.2.1 q.2.2, w ∈ lw_tbl) ∧ (∀ k, k < q.2.2 → parseFieldDescriptor (q.2.1 k).2.2.1 = some (pY ci k)) ∧ (∀ a, a < q.2.2 → ∀ b, b < q.2.2 → a ≠ b → (q.2.1 a).2.1 ≠ (q.2.1 b).2.1) ∧ (∀ k, k < q.2.2 → defaultValue (pY ci k) = vp_V (pD ci) k)
theorem pcl_ok : ∀ (ci : Nat) (q : vw_C), pcl[ci]? = some q → clOk ci q := fun ci q h => match ci, h with
  | 0, h => by cases h; exact ⟨lwAll_mem pcw0, pct0, pcn0, pcd0⟩
  | 1, h => by cases h; exact ⟨lwAll_mem pcw1, pct1, pcn1, pcd1⟩
  | 2, h => by cases h; exact ⟨lwAll_mem pcw2, pct2, pcn2, pcd2⟩
  | 3, h => by cases h; exact ⟨lwAll_mem pcw3, pct3, pcn3, pcd3⟩
  | 4, h => by cases h; exact ⟨lwAll_mem pcw4, pct4, pcn4, pcd4⟩
  | 5, h => by cases h; exact ⟨lwAll_mem pcw5, pct5, pcn5, pcd5⟩
  | 6, h => by cases h; exact ⟨lwAll_mem pcw6, pct6, pcn6, pcd6⟩
  | 7, h => by cases h; exact ⟨lwAll_mem pcw7, pct7, pcn7, pcd7⟩
  | 8, h => by cases h; exact ⟨lwAll_mem pcw8, pct8, pcn8, pcd8⟩
  | 9, h => by cases h; exact ⟨lwAll_mem pcw9, pct9, pcn9, pcd9⟩
  | 10, h => by cases h; exact ⟨lwAll_mem pcw10, pct10, pcn10, pcd10⟩
  | 11, h => by cases h; exact ⟨lwAll_mem pcw11, pct11, pcn11, pcd11⟩
  | k + 12, h => by simp [pcl] at h
def okFr (r : pFT) : Bool := r.2.2.2.2.1.all fun ci => match pcl[ci]? with
  | some q => Nat.blt r.2.2.2.1 q.2.2 && lwIs (r.2.2.2.2.2.1, .fieldLink (pN r.1) r.2.1 r.2.2.1 (q.2.1 r.2.2.2.1).2.1 (q.2.1 r.2.2.2.1).2.2.1) &&
      (bif Nat.beq r.2.2.2.2.2.2.1 0 then decide ((q.2.1 r.2.2.2.1).1 = r.2.2.1) else lwIs (r.2.2.2.2.2.2.1, .sameField r.2.2.1 (q.2.1 r.2.2.2.1).1 (q.2.1 r.2.2.2.1).2.1 (q.2.1 r.2.2.2.1).2.2.1)) &&
      decide ((q.2.1 r.2.2.2.1).2.2.2 = !Nat.beq r.2.2.2.2.2.2.2.2 0) && (!Nat.beq r.2.2.2.2.2.2.2.2 1 || decide ((q.2.1 r.2.2.2.1).1 = pN r.1))
  | none => false
theorem pF_ok : pF.all okFr = true := by decide +kernel
def okKr (r : pKT) : Bool := match r.2.2.1 with
  | .int v => lwIs (r.2.2.2, .constant (pN r.1) r.2.1 v)
  | .long v => lwIs (r.2.2.2, .constantLong (pN r.1) r.2.1 v)
  | .retAddr 1 => Nat.beq r.1 4 && Nat.beq r.2.1 114
  | _ => false
theorem pK_ok : pK.all okKr = true := by decide +kernel
def okMr (r : pNT) : Bool := match pcl[r.2.2.1]? with
  | some q => lwIs (r.2.2.2.1, .classLink (pN r.1) r.2.1 q.1) && lwIs (r.2.2.2.2.1, .instantiable q.1 q.2.2) && lwIs (r.2.2.2.2.2, .initialized q.1)
  | none => false
theorem pM_ok : pM.all okMr = true := by decide +kernel
def mnOf (y : Nat) : MethodName := match pMth y with | some r => r.2.2.1 | none => ⟨"", "", ""⟩
def scN (ci : Nat) : String := match pcl[ci]? with | some q => q.1 | none => ""
/-- the words that a call's row needs, beside its callee's own -/
def cWs (c : pCT) : List Jvm.Cond := match c.2.2.1 with
  | 0 => [.methodLink (pN c.1) c.2.1 c.2.2.2.2.1, .static c.2.2.2.2.1]
  | 1 => [.methodLinkNest (pN c.1) c.2.1 c.2.2.2.2.1 "NotYetSaid", .static c.2.2.2.2.1]
  | 2 => [.methodLink (pN c.1) c.2.1 c.2.2.2.2.1, .instanceMethod c.2.2.2.2.1]
  | 3 => [.methodLinkNest (pN c.1) c.2.1 c.2.2.2.2.1 "NotYetSaid", .instanceMethod c.2.2.2.2.1]
  | 4 => [.methodLink (pN c.1) c.2.1 Lib.objectInit]
  | 5 => [.methodLink (pN c.1) c.2.1 c.2.2.2.2.1, .instanceMethod c.2.2.2.2.1, .selects c.2.2.2.2.1.cls c.2.2.2.2.1 c.2.2.2.2.1]
  | 6 => [.methodLink (pN c.1) c.2.1 c.2.2.2.2.1, .sameMethod c.2.2.2.2.1.cls c.2.2.2.2.2.1 c.2.2.2.2.1.name c.2.2.2.2.1.desc] ++ c.2.2.2.2.2.2.flatMap fun t => [.selects (scN t.1) c.2.2.2.2.1 (mnOf t.2), .instanceMethod (mnOf t.2)]
  | 7 => [.methodLink (pN c.1) c.2.1 c.2.2.2.2.1, .sameMethod c.2.2.2.2.1.cls c.2.2.2.2.2.1 c.2.2.2.2.1.name c.2.2.2.2.1.desc, .superclass (pN c.1) c.2.2.2.2.1.cls] ++ (c.2.2.2.2.2.2.map fun t => .instanceMethod (mnOf t.2)) ++ bif decide (c.2.2.2.2.1.cls = c.2.2.2.2.2.1) then [] else [.superclass c.2.2.2.2.1.cls c.2.2.2.2.2.1]
  | 8 => [.methodLink (pN c.1) c.2.1 arraycopyName]
  | 9 => [.methodLink (pN c.1) c.2.1 c.2.2.2.2.1]
  | 11 => [.methodLink (pN c.1) c.2.1 Lib.Math.max.name]
  | 12 => [.methodLink (pN c.1) c.2.1 Lib.Math.min.name]
  | _ => [.methodLink (pN c.1) c.2.1 c.2.2.2.2.1]
def anM : List (String × String) := [("lasts", "(II)I"), ("says", "(ILNotYetSaid$Host;)I"), ("sways", "(ILNotYetSaid$Host;)I"), ("shares", "(ILNotYetSaid$Host;)I"), ("tells", "(ILNotYetSaid$Host;)I"), ("takeOver", "(LNotYetSaid$Answer;)V")]
/-- what else a call's row must be -/
def cOk (c : pCT) : Bool := c.2.2.2.2.2.2.all (fun t => !Nat.beq t.2 LAWN) && (bif Nat.ble c.2.2.1 3 || Nat.beq c.2.2.1 5 then (match c.2.2.2.2.2.2 with | [t] => decide (mnOf t.2 = c.2.2.2.2.1) | _ => false) else true) &&
  (bif Nat.beq c.2.2.1 2 || Nat.beq c.2.2.1 3 then decide (c.2.2.2.2.1.name = "<init>") else true) &&
  (bif Nat.beq c.2.2.1 5 then (match c.2.2.2.2.2.2 with | [t] => decide (scN t.1 = c.2.2.2.2.1.cls) | _ => false) else true) &&
  (bif Nat.beq c.2.2.1 7 then (match c.2.2.2.2.2.2 with | [t] => decide (mnOf t.2 = ⟨c.2.2.2.2.2.1, c.2.2.2.2.1.name, c.2.2.2.2.1.desc⟩) && decide (c.2.2.2.2.1.name ≠ "<init>") | _ => false) else true) &&
  (bif Nat.beq c.2.2.1 6 then decide (c.2.2.2.2.2.1 = "NotYetSaid$Answer") && decide ((c.2.2.2.2.1.name, c.2.2.2.2.1.desc) ∈ anM) else true) &&
  (bif Nat.ble c.2.2.1 3 || Nat.ble 5 c.2.2.1 && Nat.ble c.2.2.1 7 then decide ((parseMethodDescriptor c.2.2.2.2.1.desc).map (fun d => d.parameters.length) = some c.2.2.2.1) else true)
def lwZ (is : List (List Nat)) (cs : List pCT) : Bool := decide (is.length = cs.length) && (is.zip cs).all fun q => lwAll q.1 (cWs q.2) && cOk q.2
theorem pC_0_ok : lwZ [[426, 351], [1122, 1082, 1083], [1123, 1118, 433, 1117], [400, 351], [1103, 1082, 1083], [1104, 1098, 407, 1097], [268], [972, 965, 966], [973, 974], [1004, 981, 982], [992, 985, 986], [993, 994], [1030, 1023, 1024], [1035, 1036, 1037], [106], [111, 112], [342, 343], [447, 448, 449], [556, 557, 558], [471, 472, 473], [592, 456, 457], [463, 464, 465], [467, 468, 469], [475, 476, 477], [496, 498, 499, 500, 502, 503, 505, 506, 510, 511, 513, 514], [517], [522, 523, 524], [746, 519, 520], [747, 460, 461], [748], [913, 754, 755], [914, 915], [900, 889, 890], [1178, 537, 538, 536, 539, 536, 540, 536, 541, 536, 542, 536], [1179], [232], [234, 112], [605], [608, 610, 2], [691, 693, 9]] pC_0 = true := by decide +kernel
theorem pC_1_ok : lwZ [[695, 697, 10], [699, 701, 11], [726, 728, 16], [718, 720, 15], [730, 731, 732], [703, 705, 12], [722, 723, 724], [707, 709, 13], [711, 713, 14], [715, 716], [612, 614, 3], [616, 618, 4], [626, 628, 5], [687, 689, 8], [620, 621], [623, 624], [630, 632, 6], [635], [645], [683, 685, 7], [114], [479, 480], [482, 484, 0], [490, 491], [493], [486, 488, 1], [207], [768, 523, 524], [769, 743, 744], [765, 766], [770, 771, 772], [815, 813], [823, 821], [824], [832, 830], [857, 855], [858, 859], [861, 862], [785, 786, 787], [789, 790, 791]] pC_1 = true := by decide +kernel
theorem pC_2_ok : lwZ [[929, 910, 911], [797, 799, 17], [413, 398], [508, 1772, 420, 503], [509], [1081, 1082, 1083], [1085, 1086, 420, 1074, 407], [1147, 1148, 420, 1140, 407], [1150, 1151, 1153, 1117], [350, 351], [1091, 1082, 1083], [1092, 1075, 394, 1074], [439, 424], [516, 1773, 446, 500], [1110, 1082, 1083], [1111, 1112, 446, 1097, 433], [1130, 1774, 446, 1120], [1131, 1132, 1133, 1074], [98], [103, 104], [204, 205], [229, 230], [265, 266], [332, 333], [335, 336], [338, 339, 340], [455, 456, 457], [459, 460, 461], [518, 519, 520], [534, 343], [535, 537, 538, 536, 539, 536, 540, 536, 541, 536, 542, 536], [544, 448, 449], [549, 550], [552, 553, 554], [564, 472, 473], [565, 566, 567], [569, 468, 469], [574, 464, 465], [575, 557, 558], [588, 589, 590]] pC_2 = true := by decide +kernel
theorem pC_3_ok : lwZ [[601, 602, 603], [734, 735, 736], [742, 743, 744], [753, 754, 755], [761, 762, 763], [778, 779], [781, 782, 783], [793, 794, 795], [801, 802, 803], [809, 810], [812, 813], [820, 821], [829, 830], [841, 766], [854, 855], [868, 869, 870], [876, 877, 878], [888, 889, 890], [896, 897, 898], [909, 910, 911], [925, 926, 927], [930, 523, 524], [935, 936, 937], [939, 940, 941], [947, 949, 18], [959, 786, 787], [964, 965, 966], [968, 969, 970], [980, 981, 982], [984, 985, 986], [988, 989, 990], [1000, 1001, 1002], [1005, 1006, 1007], [1013], [1022, 1023, 1024], [1026, 1027, 1028], [1031, 1032, 1033], [1039, 1036, 1037], [1044, 1045, 1046], [1048, 1049, 1050]] pC_3 = true := by decide +kernel
theorem pC_4_ok : lwZ [[1052, 1053, 1054], [1056, 1058, 19], [1064, 480], [1069, 1070, 1071], [1073, 1075, 1076, 1074, 1077, 1074, 1078, 1079, 1088, 1089, 1093, 1074], [1096, 1098, 1099, 1097, 1100, 1101, 1105, 1101, 1106, 1097, 1107, 1108], [1116, 1118, 1119, 1120, 1124, 1117, 1125, 1117, 1126, 1117, 1127, 1128], [1139, 1141, 1142, 1140, 1143, 1140, 1144, 1145, 1154, 1140, 1155, 1140], [1162, 1163, 1164], [1174, 1175, 1176], [1060, 1061, 1062], [1191], [1297, 1298], [1339, 1340], [1317, 1319, 22], [1321, 1323, 23], [1313, 1315, 21], [1293, 1294], [1305, 1307, 20], [1329, 1330], [1333, 1334], [1370, 1372, 29], [1355, 1357, 26], [1366, 1368, 28], [1374, 1375], [1359, 1360], [1362, 1364, 27], [1381, 1383, 31], [1346, 1348, 24], [1351, 1353, 25], [1377, 1379, 30], [1409, 1411, 32], [1425, 1427, 34], [1429, 1431, 35], [1421, 1423, 33], [1446, 1448, 36], [1442, 1443], [1454, 1456, 37], [1462, 1464, 38], [1470, 1472, 39]] pC_4 = true := by decide +kernel
theorem pC_5_ok : lwZ [[1474, 1476, 40], [1478, 1480, 41], [1498, 1500, 42], [1502, 1504, 43], [1506, 1507], [1526, 1528, 44], [1542, 1414, 1415], [1544, 1545], [1551, 1539, 1540], [1560, 1562, 45], [1586, 1588, 47], [1590, 1591], [1595, 1596], [1582, 1584, 46], [1620, 1622, 51], [1608, 1610, 50], [1646, 1648, 57], [1655, 1657, 58], [1659, 1661, 59], [1642, 1644, 56], [1625, 1627, 52], [1638, 1640, 55], [1633, 1635, 54], [1629, 1631, 53], [1604, 1606, 49], [1600, 1602, 48], [1672, 1673], [1680, 1681], [1687, 1689, 60], [1695, 1697, 61], [1700, 1702, 62], [1704, 1406, 1407], [1719, 1721, 63], [1731, 1733, 65], [1727, 1729, 64], [1743, 1745, 68], [1735, 1737, 66], [1739, 1741, 67], [1747, 1749, 69], [1755, 1757, 70]] pC_5 = true := by decide +kernel
theorem pC_6_ok : lwZ [[353], [347, 348], [397, 398], [410, 411], [423, 424], [436, 437], [1095, 1082, 1083], [1115, 1075, 1076, 1074, 1077, 1074, 1078, 1079, 1088, 1089, 1093, 1074], [1135, 1136, 1137], [1157, 1098, 1099, 1097, 1100, 1101, 1105, 1101, 1106, 1097, 1107, 1108], [95, 96], [1188, 1189], [328, 329, 330], [1325, 1326, 1327], [451, 452, 453], [1342, 1343, 1344], [526, 527, 528], [1385, 1386, 1387], [530, 531, 532], [1389, 1390, 1391], [545, 546, 547], [1289, 1290, 1291], [560, 561, 562], [1301, 1302, 1303], [570, 571, 572], [1309, 1310, 1311], [576, 577, 578], [1393, 1394, 1395], [580, 581, 582], [1397, 1398, 1399], [584, 585, 586], [1401, 1402, 1403], [593, 594, 595], [1572, 1573, 1574], [597, 598, 599], [1578, 1579, 1580], [738, 739, 740], [1405, 1406, 1407], [749, 750, 751], [1413, 1414, 1415]] pC_6 = true := by decide +kernel
theorem pC_7_ok : lwZ [[757, 758, 759], [1417, 1418, 1419], [774, 775, 776], [1433, 1434, 1435], [805, 806, 807], [1438, 1439, 1440], [816, 817, 818], [1450, 1451, 1452], [825, 826, 827], [1458, 1459, 1460], [833, 834, 835], [1466, 1467, 1468], [837, 838, 839], [1482, 1483, 1484], [842, 843, 844], [1486, 1487, 1488], [846, 847, 848], [1490, 1491, 1492], [850, 851, 852], [1494, 1495, 1496], [864, 865, 866], [1509, 1510, 1511], [872, 873, 874], [1513, 1514, 1515], [880, 881, 882], [1518, 1519, 1520], [884, 885, 886], [1522, 1523, 1524], [892, 893, 894], [1530, 1531, 1532], [901, 902, 903], [1534, 1535, 1536], [905, 906, 907], [1538, 1539, 1540], [921, 922, 923], [1547, 1548, 1549], [931, 932, 933], [1552, 1553, 1554], [943, 944, 945], [1556, 1557, 1558]] pC_7 = true := by decide +kernel
theorem pC_8_ok : lwZ [[951, 952, 953], [1564, 1565, 1566], [955, 956, 957], [1568, 1569, 1570], [960, 961, 962], [1668, 1669, 1670], [976, 977, 978], [1676, 1677, 1678], [996, 997, 998], [1683, 1684, 1685], [1009, 1010, 1011], [1691, 1692, 1693], [1014, 1015, 1016], [1705, 1706, 1707], [1018, 1019, 1020], [1709, 1710, 1711], [1040, 1041, 1042], [1713, 1714, 1715], [1065, 1066, 1067], [1723, 1724, 1725], [1158, 1159, 1160], [1751, 1752, 1753], [1166, 1167, 1168], [1759, 1760, 1761], [1170, 1171, 1172], [1763, 1764, 1765], [1182, 1183, 1184], [1767, 1768, 1769]] pC_8 = true := by decide +kernel
theorem lwZ_ok {is : List (List Nat)} {cs : List pCT} (h : lwZ is cs = true) : ∀ (j : Nat) (c : pCT), cs[j]? = some c → (∀ w ∈ cWs c, w ∈ lw_tbl) ∧ cOk c = true := by
  intro j c hj
  unfold lwZ at h
  rw [Bool.and_eq_true, decide_eq_true_eq] at h
  obtain ⟨hi, hw⟩ := List.getElem?_eq_some_iff.mp hj
  have h1 := List.all_eq_true.mp h.2 (is[j], cs[j]) (by rw [← List.getElem_zip (h := by rw [List.length_zip]; omega)]; exact List.getElem_mem _)
  rw [Bool.and_eq_true] at h1
  rw [← hw]
  exact ⟨lwAll_mem h1.1, h1.2⟩
def cGood (o : Option pCT) : Prop := ∀ c, o = some c → (∀ w ∈ cWs c, w ∈ lw_tbl) ∧ cOk c = true
theorem cGc {o1 o2 : Option pCT} {b : Bool} (h1 : cGood o1) (h2 : cGood o2) : cGood (bif b then o1 else o2) := by cases b <;> assumption
theorem pC_ok (j : Nat) : cGood (pC j) := (cGc (cGc (cGc (lwZ_ok pC_0_ok _) (lwZ_ok pC_1_ok _)) (cGc (lwZ_ok pC_2_ok _) (lwZ_ok pC_3_ok _))) (cGc (cGc (lwZ_ok pC_4_ok _) (lwZ_ok pC_5_ok _)) (cGc (lwZ_ok pC_6_ok _) (cGc (lwZ_ok pC_7_ok _) (lwZ_ok pC_8_ok _)))))
def okRw (q : Nat × Nat) (r : pMT) : Bool := lwIs (q.1, .code r.2.2.1 r.2.1 r.2.2.2.1 r.2.2.2.2.1) && lwIs (q.2, .initialized r.2.2.1.cls) && plainName r.2.2.1.cls && decide (r.2.2.1.cls ≠ "java/lang/invoke/MethodHandle") && decide (r.2.2.1.cls ≠ "java/lang/invoke/VarHandle") && decide (pN r.2.2.2.2.2.1 = r.2.2.1.cls) && Nat.ble r.2.2.2.1 40 && (!r.2.2.2.2.2.2.2 || decide (r.2.2.1.name = "<init>")) && (!decide (r.2.2.1.name = "<init>") || r.2.2.2.2.1.isNone)
theorem pR0_ok : okRw (425, 83) pR0 = true := by decide +kernel
theorem pR1_ok : okRw (501, 83) pR1 = true := by decide +kernel
theorem pR2_ok : okRw (1121, 83) pR2 = true := by decide +kernel
theorem pR3_ok : okRw (399, 81) pR3 = true := by decide +kernel
theorem pR4_ok : okRw (504, 81) pR4 = true := by decide +kernel
theorem pR5_ok : okRw (1102, 81) pR5 = true := by decide +kernel
theorem pR6_ok : okRw (267, 77) pR6 = true := by decide +kernel
theorem pR7_ok : okRw (967, 77) pR7 = true := by decide +kernel
theorem pR8_ok : okRw (983, 77) pR8 = true := by decide +kernel
theorem pR9_ok : okRw (971, 77) pR9 = true := by decide +kernel
theorem pR10_ok : okRw (1003, 77) pR10 = true := by decide +kernel
theorem pR11_ok : okRw (987, 77) pR11 = true := by decide +kernel
theorem pR12_ok : okRw (1008, 77) pR12 = true := by decide +kernel
theorem pR13_ok : okRw (991, 77) pR13 = true := by decide +kernel
theorem pR14_ok : okRw (995, 77) pR14 = true := by decide +kernel
theorem pR15_ok : okRw (1025, 77) pR15 = true := by decide +kernel
theorem pR16_ok : okRw (1038, 77) pR16 = true := by decide +kernel
theorem pR17_ok : okRw (1029, 77) pR17 = true := by decide +kernel
theorem pR18_ok : okRw (1034, 77) pR18 = true := by decide +kernel
theorem pR19_ok : okRw (1063, 77) pR19 = true := by decide +kernel
theorem pR20_ok : okRw (1047, 77) pR20 = true := by decide +kernel
theorem pR21_ok : okRw (1051, 77) pR21 = true := by decide +kernel
theorem pR22_ok : okRw (1055, 77) pR22 = true := by decide +kernel
theorem pR23_ok : okRw (1072, 77) pR23 = true := by decide +kernel
theorem pR24_ok : okRw (1084, 77) pR24 = true := by decide +kernel
theorem pR25_ok : okRw (1138, 77) pR25 = true := by decide +kernel
theorem pR26_ok : okRw (1165, 77) pR26 = true := by decide +kernel
theorem pR27_ok : okRw (105, 73) pR27 = true := by decide +kernel
theorem pR28_ok : okRw (458, 73) pR28 = true := by decide +kernel
theorem pR29_ok : okRw (341, 73) pR29 = true := by decide +kernel
theorem pR30_ok : okRw (450, 73) pR30 = true := by decide +kernel
theorem pR31_ok : okRw (474, 73) pR31 = true := by decide +kernel
theorem pR32_ok : okRw (555, 73) pR32 = true := by decide +kernel
theorem pR33_ok : okRw (559, 73) pR33 = true := by decide +kernel
theorem pR34_ok : okRw (568, 73) pR34 = true := by decide +kernel
theorem pR35_ok : okRw (470, 73) pR35 = true := by decide +kernel
theorem pR36_ok : okRw (466, 73) pR36 = true := by decide +kernel
theorem pR37_ok : okRw (525, 73) pR37 = true := by decide +kernel
theorem pR38_ok : okRw (591, 73) pR38 = true := by decide +kernel
theorem pR39_ok : okRw (462, 73) pR39 = true := by decide +kernel
theorem pR40_ok : okRw (521, 73) pR40 = true := by decide +kernel
theorem pR41_ok : okRw (756, 73) pR41 = true := by decide +kernel
theorem pR42_ok : okRw (745, 73) pR42 = true := by decide +kernel
theorem pR43_ok : okRw (773, 73) pR43 = true := by decide +kernel
theorem pR44_ok : okRw (912, 73) pR44 = true := by decide +kernel
theorem pR45_ok : okRw (879, 73) pR45 = true := by decide +kernel
theorem pR46_ok : okRw (891, 73) pR46 = true := by decide +kernel
theorem pR47_ok : okRw (899, 73) pR47 = true := by decide +kernel
theorem pR48_ok : okRw (1177, 73) pR48 = true := by decide +kernel
theorem pR49_ok : okRw (231, 76) pR49 = true := by decide +kernel
theorem pR50_ok : okRw (604, 76) pR50 = true := by decide +kernel
theorem pR51_ok : okRw (737, 76) pR51 = true := by decide +kernel
theorem pR52_ok : okRw (698, 76) pR52 = true := by decide +kernel
theorem pR53_ok : okRw (729, 76) pR53 = true := by decide +kernel
theorem pR54_ok : okRw (702, 76) pR54 = true := by decide +kernel
theorem pR55_ok : okRw (706, 76) pR55 = true := by decide +kernel
theorem pR56_ok : okRw (710, 76) pR56 = true := by decide +kernel
theorem pR57_ok : okRw (714, 76) pR57 = true := by decide +kernel
theorem pR58_ok : okRw (717, 76) pR58 = true := by decide +kernel
theorem pR59_ok : okRw (694, 76) pR59 = true := by decide +kernel
theorem pR60_ok : okRw (721, 76) pR60 = true := by decide +kernel
theorem pR61_ok : okRw (611, 76) pR61 = true := by decide +kernel
theorem pR62_ok : okRw (619, 76) pR62 = true := by decide +kernel
theorem pR63_ok : okRw (622, 76) pR63 = true := by decide +kernel
theorem pR64_ok : okRw (625, 76) pR64 = true := by decide +kernel
theorem pR65_ok : okRw (615, 76) pR65 = true := by decide +kernel
theorem pR66_ok : okRw (629, 76) pR66 = true := by decide +kernel
theorem pR67_ok : okRw (633, 76) pR67 = true := by decide +kernel
theorem pR68_ok : okRw (686, 76) pR68 = true := by decide +kernel
theorem pR69_ok : okRw (690, 76) pR69 = true := by decide +kernel
theorem pR70_ok : okRw (113, 74) pR70 = true := by decide +kernel
theorem pR71_ok : okRw (725, 74) pR71 = true := by decide +kernel
theorem pR72_ok : okRw (733, 74) pR72 = true := by decide +kernel
theorem pR73_ok : okRw (478, 74) pR73 = true := by decide +kernel
theorem pR74_ok : okRw (492, 74) pR74 = true := by decide +kernel
theorem pR75_ok : okRw (485, 74) pR75 = true := by decide +kernel
theorem pR76_ok : okRw (489, 74) pR76 = true := by decide +kernel
theorem pR77_ok : okRw (206, 75) pR77 = true := by decide +kernel
theorem pR78_ok : okRw (767, 75) pR78 = true := by decide +kernel
theorem pR79_ok : okRw (814, 75) pR79 = true := by decide +kernel
theorem pR80_ok : okRw (822, 75) pR80 = true := by decide +kernel
theorem pR81_ok : okRw (831, 75) pR81 = true := by decide +kernel
theorem pR82_ok : okRw (856, 75) pR82 = true := by decide +kernel
theorem pR83_ok : okRw (860, 75) pR83 = true := by decide +kernel
theorem pR84_ok : okRw (863, 75) pR84 = true := by decide +kernel
theorem pR85_ok : okRw (871, 75) pR85 = true := by decide +kernel
theorem pR86_ok : okRw (764, 75) pR86 = true := by decide +kernel
theorem pR87_ok : okRw (784, 75) pR87 = true := by decide +kernel
theorem pR88_ok : okRw (928, 75) pR88 = true := by decide +kernel
theorem pR89_ok : okRw (788, 75) pR89 = true := by decide +kernel
theorem pR90_ok : okRw (792, 75) pR90 = true := by decide +kernel
theorem pR91_ok : okRw (804, 75) pR91 = true := by decide +kernel
theorem pR92_ok : okRw (800, 75) pR92 = true := by decide +kernel
theorem pR93_ok : okRw (796, 75) pR93 = true := by decide +kernel
theorem pR94_ok : okRw (938, 75) pR94 = true := by decide +kernel
theorem pR95_ok : okRw (942, 75) pR95 = true := by decide +kernel
theorem pR96_ok : okRw (412, 82) pR96 = true := by decide +kernel
theorem pR97_ok : okRw (507, 82) pR97 = true := by decide +kernel
theorem pR98_ok : okRw (1080, 82) pR98 = true := by decide +kernel
theorem pR99_ok : okRw (1146, 82) pR99 = true := by decide +kernel
theorem pR100_ok : okRw (349, 80) pR100 = true := by decide +kernel
theorem pR101_ok : okRw (512, 80) pR101 = true := by decide +kernel
theorem pR102_ok : okRw (1090, 80) pR102 = true := by decide +kernel
theorem pR103_ok : okRw (438, 84) pR103 = true := by decide +kernel
theorem pR104_ok : okRw (515, 84) pR104 = true := by decide +kernel
theorem pR105_ok : okRw (1109, 84) pR105 = true := by decide +kernel
theorem pR106_ok : okRw (1129, 84) pR106 = true := by decide +kernel
theorem pR107_ok : okRw (97, 72) pR107 = true := by decide +kernel
theorem pR108_ok : okRw (331, 72) pR108 = true := by decide +kernel
theorem pR109_ok : okRw (454, 72) pR109 = true := by decide +kernel
theorem pR110_ok : okRw (529, 72) pR110 = true := by decide +kernel
theorem pR111_ok : okRw (533, 72) pR111 = true := by decide +kernel
theorem pR112_ok : okRw (548, 72) pR112 = true := by decide +kernel
theorem pR113_ok : okRw (563, 72) pR113 = true := by decide +kernel
theorem pR114_ok : okRw (573, 72) pR114 = true := by decide +kernel
theorem pR115_ok : okRw (579, 72) pR115 = true := by decide +kernel
theorem pR116_ok : okRw (583, 72) pR116 = true := by decide +kernel
theorem pR117_ok : okRw (587, 72) pR117 = true := by decide +kernel
theorem pR118_ok : okRw (596, 72) pR118 = true := by decide +kernel
theorem pR119_ok : okRw (600, 72) pR119 = true := by decide +kernel
theorem pR120_ok : okRw (741, 72) pR120 = true := by decide +kernel
theorem pR121_ok : okRw (752, 72) pR121 = true := by decide +kernel
theorem pR122_ok : okRw (760, 72) pR122 = true := by decide +kernel
theorem pR123_ok : okRw (777, 72) pR123 = true := by decide +kernel
theorem pR124_ok : okRw (808, 72) pR124 = true := by decide +kernel
theorem pR125_ok : okRw (819, 72) pR125 = true := by decide +kernel
theorem pR126_ok : okRw (828, 72) pR126 = true := by decide +kernel
theorem pR127_ok : okRw (836, 72) pR127 = true := by decide +kernel
theorem pR128_ok : okRw (840, 72) pR128 = true := by decide +kernel
theorem pR129_ok : okRw (845, 72) pR129 = true := by decide +kernel
theorem pR130_ok : okRw (849, 72) pR130 = true := by decide +kernel
theorem pR131_ok : okRw (853, 72) pR131 = true := by decide +kernel
theorem pR132_ok : okRw (867, 72) pR132 = true := by decide +kernel
theorem pR133_ok : okRw (875, 72) pR133 = true := by decide +kernel
theorem pR134_ok : okRw (883, 72) pR134 = true := by decide +kernel
theorem pR135_ok : okRw (887, 72) pR135 = true := by decide +kernel
theorem pR136_ok : okRw (895, 72) pR136 = true := by decide +kernel
theorem pR137_ok : okRw (904, 72) pR137 = true := by decide +kernel
theorem pR138_ok : okRw (908, 72) pR138 = true := by decide +kernel
theorem pR139_ok : okRw (924, 72) pR139 = true := by decide +kernel
theorem pR140_ok : okRw (934, 72) pR140 = true := by decide +kernel
theorem pR141_ok : okRw (946, 72) pR141 = true := by decide +kernel
theorem pR142_ok : okRw (954, 72) pR142 = true := by decide +kernel
theorem pR143_ok : okRw (958, 72) pR143 = true := by decide +kernel
theorem pR144_ok : okRw (963, 72) pR144 = true := by decide +kernel
theorem pR145_ok : okRw (979, 72) pR145 = true := by decide +kernel
theorem pR146_ok : okRw (999, 72) pR146 = true := by decide +kernel
theorem pR147_ok : okRw (1012, 72) pR147 = true := by decide +kernel
theorem pR148_ok : okRw (1017, 72) pR148 = true := by decide +kernel
theorem pR149_ok : okRw (1021, 72) pR149 = true := by decide +kernel
theorem pR150_ok : okRw (1043, 72) pR150 = true := by decide +kernel
theorem pR151_ok : okRw (1068, 72) pR151 = true := by decide +kernel
theorem pR152_ok : okRw (1161, 72) pR152 = true := by decide +kernel
theorem pR153_ok : okRw (1169, 72) pR153 = true := by decide +kernel
theorem pR154_ok : okRw (1173, 72) pR154 = true := by decide +kernel
theorem pR155_ok : okRw (1185, 72) pR155 = true := by decide +kernel
theorem pR156_ok : okRw (334, 72) pR156 = true := by decide +kernel
theorem pR157_ok : okRw (337, 72) pR157 = true := by decide +kernel
theorem pR158_ok : okRw (551, 72) pR158 = true := by decide +kernel
theorem pR159_ok : okRw (811, 72) pR159 = true := by decide +kernel
theorem pR160_ok : okRw (780, 72) pR160 = true := by decide +kernel
theorem pR161_ok : okRw (950, 72) pR161 = true := by decide +kernel
theorem pR162_ok : okRw (1059, 72) pR162 = true := by decide +kernel
theorem pR163_ok : okRw (481, 72) pR163 = true := by decide +kernel
theorem pR164_ok : okRw (1190, 78) pR164 = true := by decide +kernel
theorem pR165_ok : okRw (1299, 78) pR165 = true := by decide +kernel
theorem pR166_ok : okRw (1349, 78) pR166 = true := by decide +kernel
theorem pR167_ok : okRw (1308, 78) pR167 = true := by decide +kernel
theorem pR168_ok : okRw (1473, 78) pR168 = true := by decide +kernel
theorem pR169_ok : okRw (1481, 78) pR169 = true := by decide +kernel
theorem pR170_ok : okRw (1341, 78) pR170 = true := by decide +kernel
theorem pR171_ok : okRw (1358, 78) pR171 = true := by decide +kernel
theorem pR172_ok : okRw (1320, 78) pR172 = true := by decide +kernel
theorem pR173_ok : okRw (1324, 78) pR173 = true := by decide +kernel
theorem pR174_ok : okRw (1384, 78) pR174 = true := by decide +kernel
theorem pR175_ok : okRw (1316, 78) pR175 = true := by decide +kernel
theorem pR176_ok : okRw (1373, 78) pR176 = true := by decide +kernel
theorem pR177_ok : okRw (1295, 78) pR177 = true := by decide +kernel
theorem pR178_ok : okRw (1292, 78) pR178 = true := by decide +kernel
theorem pR179_ok : okRw (1304, 78) pR179 = true := by decide +kernel
theorem pR180_ok : okRw (1312, 78) pR180 = true := by decide +kernel
theorem pR181_ok : okRw (1331, 78) pR181 = true := by decide +kernel
theorem pR182_ok : okRw (1335, 78) pR182 = true := by decide +kernel
theorem pR183_ok : okRw (1328, 78) pR183 = true := by decide +kernel
theorem pR184_ok : okRw (1361, 78) pR184 = true := by decide +kernel
theorem pR185_ok : okRw (1369, 78) pR185 = true := by decide +kernel
theorem pR186_ok : okRw (1376, 78) pR186 = true := by decide +kernel
theorem pR187_ok : okRw (1365, 78) pR187 = true := by decide +kernel
theorem pR188_ok : okRw (1354, 78) pR188 = true := by decide +kernel
theorem pR189_ok : okRw (1380, 78) pR189 = true := by decide +kernel
theorem pR190_ok : okRw (1345, 78) pR190 = true := by decide +kernel
theorem pR191_ok : okRw (1388, 78) pR191 = true := by decide +kernel
theorem pR192_ok : okRw (1392, 78) pR192 = true := by decide +kernel
theorem pR193_ok : okRw (1396, 78) pR193 = true := by decide +kernel
theorem pR194_ok : okRw (1400, 78) pR194 = true := by decide +kernel
theorem pR195_ok : okRw (1404, 78) pR195 = true := by decide +kernel
theorem pR196_ok : okRw (1412, 78) pR196 = true := by decide +kernel
theorem pR197_ok : okRw (1432, 78) pR197 = true := by decide +kernel
theorem pR198_ok : okRw (1408, 78) pR198 = true := by decide +kernel
theorem pR199_ok : okRw (1416, 78) pR199 = true := by decide +kernel
theorem pR200_ok : okRw (1428, 78) pR200 = true := by decide +kernel
theorem pR201_ok : okRw (1424, 78) pR201 = true := by decide +kernel
theorem pR202_ok : okRw (1420, 78) pR202 = true := by decide +kernel
theorem pR203_ok : okRw (1436, 78) pR203 = true := by decide +kernel
theorem pR204_ok : okRw (1444, 78) pR204 = true := by decide +kernel
theorem pR205_ok : okRw (1449, 78) pR205 = true := by decide +kernel
theorem pR206_ok : okRw (1441, 78) pR206 = true := by decide +kernel
theorem pR207_ok : okRw (1457, 78) pR207 = true := by decide +kernel
theorem pR208_ok : okRw (1453, 78) pR208 = true := by decide +kernel
theorem pR209_ok : okRw (1465, 78) pR209 = true := by decide +kernel
theorem pR210_ok : okRw (1461, 78) pR210 = true := by decide +kernel
theorem pR211_ok : okRw (1477, 78) pR211 = true := by decide +kernel
theorem pR212_ok : okRw (1469, 78) pR212 = true := by decide +kernel
theorem pR213_ok : okRw (1485, 78) pR213 = true := by decide +kernel
theorem pR214_ok : okRw (1489, 78) pR214 = true := by decide +kernel
theorem pR215_ok : okRw (1493, 78) pR215 = true := by decide +kernel
theorem pR216_ok : okRw (1505, 78) pR216 = true := by decide +kernel
theorem pR217_ok : okRw (1508, 78) pR217 = true := by decide +kernel
theorem pR218_ok : okRw (1501, 78) pR218 = true := by decide +kernel
theorem pR219_ok : okRw (1497, 78) pR219 = true := by decide +kernel
theorem pR220_ok : okRw (1512, 78) pR220 = true := by decide +kernel
theorem pR221_ok : okRw (1516, 78) pR221 = true := by decide +kernel
theorem pR222_ok : okRw (1521, 78) pR222 = true := by decide +kernel
theorem pR223_ok : okRw (1529, 78) pR223 = true := by decide +kernel
theorem pR224_ok : okRw (1525, 78) pR224 = true := by decide +kernel
theorem pR225_ok : okRw (1533, 78) pR225 = true := by decide +kernel
theorem pR226_ok : okRw (1537, 78) pR226 = true := by decide +kernel
theorem pR227_ok : okRw (1546, 78) pR227 = true := by decide +kernel
theorem pR228_ok : okRw (1541, 78) pR228 = true := by decide +kernel
theorem pR229_ok : okRw (1550, 78) pR229 = true := by decide +kernel
theorem pR230_ok : okRw (1555, 78) pR230 = true := by decide +kernel
theorem pR231_ok : okRw (1563, 78) pR231 = true := by decide +kernel
theorem pR232_ok : okRw (1559, 78) pR232 = true := by decide +kernel
theorem pR233_ok : okRw (1567, 78) pR233 = true := by decide +kernel
theorem pR234_ok : okRw (1571, 78) pR234 = true := by decide +kernel
theorem pR235_ok : okRw (1575, 78) pR235 = true := by decide +kernel
theorem pR236_ok : okRw (1589, 78) pR236 = true := by decide +kernel
theorem pR237_ok : okRw (1592, 78) pR237 = true := by decide +kernel
theorem pR238_ok : okRw (1597, 78) pR238 = true := by decide +kernel
theorem pR239_ok : okRw (1585, 78) pR239 = true := by decide +kernel
theorem pR240_ok : okRw (1623, 78) pR240 = true := by decide +kernel
theorem pR241_ok : okRw (1611, 78) pR241 = true := by decide +kernel
theorem pR242_ok : okRw (1662, 78) pR242 = true := by decide +kernel
theorem pR243_ok : okRw (1607, 78) pR243 = true := by decide +kernel
theorem pR244_ok : okRw (1649, 78) pR244 = true := by decide +kernel
theorem pR245_ok : okRw (1658, 78) pR245 = true := by decide +kernel
theorem pR246_ok : okRw (1645, 78) pR246 = true := by decide +kernel
theorem pR247_ok : okRw (1641, 78) pR247 = true := by decide +kernel
theorem pR248_ok : okRw (1636, 78) pR248 = true := by decide +kernel
theorem pR249_ok : okRw (1632, 78) pR249 = true := by decide +kernel
theorem pR250_ok : okRw (1628, 78) pR250 = true := by decide +kernel
theorem pR251_ok : okRw (1603, 78) pR251 = true := by decide +kernel
theorem pR252_ok : okRw (1581, 78) pR252 = true := by decide +kernel
theorem pR253_ok : okRw (1674, 78) pR253 = true := by decide +kernel
theorem pR254_ok : okRw (1671, 78) pR254 = true := by decide +kernel
theorem pR255_ok : okRw (1682, 78) pR255 = true := by decide +kernel
theorem pR256_ok : okRw (1679, 78) pR256 = true := by decide +kernel
theorem pR257_ok : okRw (1690, 78) pR257 = true := by decide +kernel
theorem pR258_ok : okRw (1686, 78) pR258 = true := by decide +kernel
theorem pR259_ok : okRw (1698, 78) pR259 = true := by decide +kernel
theorem pR260_ok : okRw (1703, 78) pR260 = true := by decide +kernel
theorem pR261_ok : okRw (1694, 78) pR261 = true := by decide +kernel
theorem pR262_ok : okRw (1708, 78) pR262 = true := by decide +kernel
theorem pR263_ok : okRw (1712, 78) pR263 = true := by decide +kernel
theorem pR264_ok : okRw (1722, 78) pR264 = true := by decide +kernel
theorem pR265_ok : okRw (1716, 78) pR265 = true := by decide +kernel
theorem pR266_ok : okRw (1734, 78) pR266 = true := by decide +kernel
theorem pR267_ok : okRw (1730, 78) pR267 = true := by decide +kernel
theorem pR268_ok : okRw (1738, 78) pR268 = true := by decide +kernel
theorem pR269_ok : okRw (1746, 78) pR269 = true := by decide +kernel
theorem pR270_ok : okRw (1742, 78) pR270 = true := by decide +kernel
theorem pR271_ok : okRw (1750, 78) pR271 = true := by decide +kernel
theorem pR272_ok : okRw (1726, 78) pR272 = true := by decide +kernel
theorem pR273_ok : okRw (1758, 78) pR273 = true := by decide +kernel
theorem pR274_ok : okRw (1754, 78) pR274 = true := by decide +kernel
theorem pR275_ok : okRw (1762, 78) pR275 = true := by decide +kernel
theorem pR276_ok : okRw (1766, 78) pR276 = true := by decide +kernel
theorem pR277_ok : okRw (1770, 78) pR277 = true := by decide +kernel
theorem pR278_ok : okRw (352, 79) pR278 = true := by decide +kernel
theorem pR279_ok : okRw (344, 79) pR279 = true := by decide +kernel
theorem pR280_ok : okRw (543, 79) pR280 = true := by decide +kernel
theorem pR281_ok : okRw (1094, 79) pR281 = true := by decide +kernel
theorem pR282_ok : okRw (1114, 79) pR282 = true := by decide +kernel
theorem pR283_ok : okRw (1134, 79) pR283 = true := by decide +kernel
theorem pR284_ok : okRw (1156, 79) pR284 = true := by decide +kernel
theorem pR285_ok : okRw (916, 90) pR285 = true := by decide +kernel
theorem pR286_ok : okRw (975, 91) pR286 = true := by decide +kernel
def rGood (y : Nat) (o : Option pMT) : Prop := ∀ r, o = some r → (∀ pc, pck r.2.1 pc (r.1 pc) = true) ∧ (y ≠ 287 → ∃ q, okRw q r = true)
theorem rGc {o1 o2 : Option pMT} {y : Nat} {b : Bool} (h1 : rGood y o1) (h2 : rGood y o2) : rGood y (bif b then o1 else o2) := by cases b <;> assumption
theorem rGl {y : Nat} {r : pMT} {b : Bool} (h1 : ∀ pc, pck r.2.1 pc (r.1 pc) = true) (h2 : b = true → y ≠ 287 → ∃ q, okRw q r = true) : rGood y (bif b then some r else none) := by
  cases b
  · intro r h; cases h
  · intro r h; cases h; exact ⟨h1, h2 rfl⟩
theorem pMth_ok (y : Nat) : rGood y (pMth y) := (rGc (rGc (rGc (rGc (rGc (rGc (rGc (rGc (rGl pI0_ok (fun _ _ => ⟨_, pR0_ok⟩)) (rGl pI1_ok (fun _ _ => ⟨_, pR1_ok⟩))) (rGc (rGl pI2_ok (fun _ _ => ⟨_, pR2_ok⟩)) (rGl pI3_ok (fun _ _ => ⟨_, pR3_ok⟩)))) (rGc (rGc (rGl pI4_ok (fun _ _ => ⟨_, pR4_ok⟩)) (rGl pI5_ok (fun _ _ => ⟨_, pR5_ok⟩))) (rGc (rGl pI6_ok (fun _ _ => ⟨_, pR6_ok⟩)) (rGc (rGl pI7_ok (fun _ _ => ⟨_, pR7_ok⟩)) (rGl pI8_ok (fun _ _ => ⟨_, pR8_ok⟩)))))) (rGc (rGc (rGc (rGl pI9_ok (fun _ _ => ⟨_, pR9_ok⟩)) (rGl pI10_ok (fun _ _ => ⟨_, pR10_ok⟩))) (rGc (rGl pI11_ok (fun _ _ => ⟨_, pR11_ok⟩)) (rGl pI12_ok (fun _ _ => ⟨_, pR12_ok⟩)))) (rGc (rGc (rGl pI13_ok (fun _ _ => ⟨_, pR13_ok⟩)) (rGl pI14_ok (fun _ _ => ⟨_, pR14_ok⟩))) (rGc (rGl pI15_ok (fun _ _ => ⟨_, pR15_ok⟩)) (rGc (rGl pI16_ok (fun _ _ => ⟨_, pR16_ok⟩)) (rGl pI17_ok (fun _ _ => ⟨_, pR17_ok⟩))))))) (rGc (rGc (rGc (rGc (rGl pI18_ok (fun _ _ => ⟨_, pR18_ok⟩)) (rGl pI19_ok (fun _ _ => ⟨_, pR19_ok⟩))) (rGc (rGl pI20_ok (fun _ _ => ⟨_, pR20_ok⟩)) (rGl pI21_ok (fun _ _ => ⟨_, pR21_ok⟩)))) (rGc (rGc (rGl pI22_ok (fun _ _ => ⟨_, pR22_ok⟩)) (rGl pI23_ok (fun _ _ => ⟨_, pR23_ok⟩))) (rGc (rGl pI24_ok (fun _ _ => ⟨_, pR24_ok⟩)) (rGc (rGl pI25_ok (fun _ _ => ⟨_, pR25_ok⟩)) (rGl pI26_ok (fun _ _ => ⟨_, pR26_ok⟩)))))) (rGc (rGc (rGc (rGl pI27_ok (fun _ _ => ⟨_, pR27_ok⟩)) (rGl pI28_ok (fun _ _ => ⟨_, pR28_ok⟩))) (rGc (rGl pI29_ok (fun _ _ => ⟨_, pR29_ok⟩)) (rGl pI30_ok (fun _ _ => ⟨_, pR30_ok⟩)))) (rGc (rGc (rGl pI31_ok (fun _ _ => ⟨_, pR31_ok⟩)) (rGl pI32_ok (fun _ _ => ⟨_, pR32_ok⟩))) (rGc (rGl pI33_ok (fun _ _ => ⟨_, pR33_ok⟩)) (rGc (rGl pI34_ok (fun _ _ => ⟨_, pR34_ok⟩)) (rGl pI35_ok (fun _ _ => ⟨_, pR35_ok⟩)))))))) (rGc (rGc (rGc (rGc (rGc (rGl pI36_ok (fun _ _ => ⟨_, pR36_ok⟩)) (rGl pI37_ok (fun _ _ => ⟨_, pR37_ok⟩))) (rGc (rGl pI38_ok (fun _ _ => ⟨_, pR38_ok⟩)) (rGl pI39_ok (fun _ _ => ⟨_, pR39_ok⟩)))) (rGc (rGc (rGl pI40_ok (fun _ _ => ⟨_, pR40_ok⟩)) (rGl pI41_ok (fun _ _ => ⟨_, pR41_ok⟩))) (rGc (rGl pI42_ok (fun _ _ => ⟨_, pR42_ok⟩)) (rGc (rGl pI43_ok (fun _ _ => ⟨_, pR43_ok⟩)) (rGl pI44_ok (fun _ _ => ⟨_, pR44_ok⟩)))))) (rGc (rGc (rGc (rGl pI45_ok (fun _ _ => ⟨_, pR45_ok⟩)) (rGl pI46_ok (fun _ _ => ⟨_, pR46_ok⟩))) (rGc (rGl pI47_ok (fun _ _ => ⟨_, pR47_ok⟩)) (rGl pI48_ok (fun _ _ => ⟨_, pR48_ok⟩)))) (rGc (rGc (rGl pI49_ok (fun _ _ => ⟨_, pR49_ok⟩)) (rGl pI50_ok (fun _ _ => ⟨_, pR50_ok⟩))) (rGc (rGl pI51_ok (fun _ _ => ⟨_, pR51_ok⟩)) (rGc (rGl pI52_ok (fun _ _ => ⟨_, pR52_ok⟩)) (rGl pI53_ok (fun _ _ => ⟨_, pR53_ok⟩))))))) (rGc (rGc (rGc (rGc (rGl pI54_ok (fun _ _ => ⟨_, pR54_ok⟩)) (rGl pI55_ok (fun _ _ => ⟨_, pR55_ok⟩))) (rGc (rGl pI56_ok (fun _ _ => ⟨_, pR56_ok⟩)) (rGl pI57_ok (fun _ _ => ⟨_, pR57_ok⟩)))) (rGc (rGc (rGl pI58_ok (fun _ _ => ⟨_, pR58_ok⟩)) (rGl pI59_ok (fun _ _ => ⟨_, pR59_ok⟩))) (rGc (rGl pI60_ok (fun _ _ => ⟨_, pR60_ok⟩)) (rGc (rGl pI61_ok (fun _ _ => ⟨_, pR61_ok⟩)) (rGl pI62_ok (fun _ _ => ⟨_, pR62_ok⟩)))))) (rGc (rGc (rGc (rGl pI63_ok (fun _ _ => ⟨_, pR63_ok⟩)) (rGl pI64_ok (fun _ _ => ⟨_, pR64_ok⟩))) (rGc (rGl pI65_ok (fun _ _ => ⟨_, pR65_ok⟩)) (rGl pI66_ok (fun _ _ => ⟨_, pR66_ok⟩)))) (rGc (rGc (rGl pI67_ok (fun _ _ => ⟨_, pR67_ok⟩)) (rGl pI68_ok (fun _ _ => ⟨_, pR68_ok⟩))) (rGc (rGl pI69_ok (fun _ _ => ⟨_, pR69_ok⟩)) (rGc (rGl pI70_ok (fun _ _ => ⟨_, pR70_ok⟩)) (rGl pI71_ok (fun _ _ => ⟨_, pR71_ok⟩))))))))) (rGc (rGc (rGc (rGc (rGc (rGc (rGl pI72_ok (fun _ _ => ⟨_, pR72_ok⟩)) (rGl pI73_ok (fun _ _ => ⟨_, pR73_ok⟩))) (rGc (rGl pI74_ok (fun _ _ => ⟨_, pR74_ok⟩)) (rGl pI75_ok (fun _ _ => ⟨_, pR75_ok⟩)))) (rGc (rGc (rGl pI76_ok (fun _ _ => ⟨_, pR76_ok⟩)) (rGl pI77_ok (fun _ _ => ⟨_, pR77_ok⟩))) (rGc (rGl pI78_ok (fun _ _ => ⟨_, pR78_ok⟩)) (rGc (rGl pI79_ok (fun _ _ => ⟨_, pR79_ok⟩)) (rGl pI80_ok (fun _ _ => ⟨_, pR80_ok⟩)))))) (rGc (rGc (rGc (rGl pI81_ok (fun _ _ => ⟨_, pR81_ok⟩)) (rGl pI82_ok (fun _ _ => ⟨_, pR82_ok⟩))) (rGc (rGl pI83_ok (fun _ _ => ⟨_, pR83_ok⟩)) (rGl pI84_ok (fun _ _ => ⟨_, pR84_ok⟩)))) (rGc (rGc (rGl pI85_ok (fun _ _ => ⟨_, pR85_ok⟩)) (rGl pI86_ok (fun _ _ => ⟨_, pR86_ok⟩))) (rGc (rGl pI87_ok (fun _ _ => ⟨_, pR87_ok⟩)) (rGc (rGl pI88_ok (fun _ _ => ⟨_, pR88_ok⟩)) (rGl pI89_ok (fun _ _ => ⟨_, pR89_ok⟩))))))) (rGc (rGc (rGc (rGc (rGl pI90_ok (fun _ _ => ⟨_, pR90_ok⟩)) (rGl pI91_ok (fun _ _ => ⟨_, pR91_ok⟩))) (rGc (rGl pI92_ok (fun _ _ => ⟨_, pR92_ok⟩)) (rGl pI93_ok (fun _ _ => ⟨_, pR93_ok⟩)))) (rGc (rGc (rGl pI94_ok (fun _ _ => ⟨_, pR94_ok⟩)) (rGl pI95_ok (fun _ _ => ⟨_, pR95_ok⟩))) (rGc (rGl pI96_ok (fun _ _ => ⟨_, pR96_ok⟩)) (rGc (rGl pI97_ok (fun _ _ => ⟨_, pR97_ok⟩)) (rGl pI98_ok (fun _ _ => ⟨_, pR98_ok⟩)))))) (rGc (rGc (rGc (rGl pI99_ok (fun _ _ => ⟨_, pR99_ok⟩)) (rGl pI100_ok (fun _ _ => ⟨_, pR100_ok⟩))) (rGc (rGl pI101_ok (fun _ _ => ⟨_, pR101_ok⟩)) (rGl pI102_ok (fun _ _ => ⟨_, pR102_ok⟩)))) (rGc (rGc (rGl pI103_ok (fun _ _ => ⟨_, pR103_ok⟩)) (rGl pI104_ok (fun _ _ => ⟨_, pR104_ok⟩))) (rGc (rGl pI105_ok (fun _ _ => ⟨_, pR105_ok⟩)) (rGc (rGl pI106_ok (fun _ _ => ⟨_, pR106_ok⟩)) (rGl pI107_ok (fun _ _ => ⟨_, pR107_ok⟩)))))))) (rGc (rGc (rGc (rGc (rGc (rGl pI108_ok (fun _ _ => ⟨_, pR108_ok⟩)) (rGl pI109_ok (fun _ _ => ⟨_, pR109_ok⟩))) (rGc (rGl pI110_ok (fun _ _ => ⟨_, pR110_ok⟩)) (rGl pI111_ok (fun _ _ => ⟨_, pR111_ok⟩)))) (rGc (rGc (rGl pI112_ok (fun _ _ => ⟨_, pR112_ok⟩)) (rGl pI113_ok (fun _ _ => ⟨_, pR113_ok⟩))) (rGc (rGl pI114_ok (fun _ _ => ⟨_, pR114_ok⟩)) (rGc (rGl pI115_ok (fun _ _ => ⟨_, pR115_ok⟩)) (rGl pI116_ok (fun _ _ => ⟨_, pR116_ok⟩)))))) (rGc (rGc (rGc (rGl pI117_ok (fun _ _ => ⟨_, pR117_ok⟩)) (rGl pI118_ok (fun _ _ => ⟨_, pR118_ok⟩))) (rGc (rGl pI119_ok (fun _ _ => ⟨_, pR119_ok⟩)) (rGl pI120_ok (fun _ _ => ⟨_, pR120_ok⟩)))) (rGc (rGc (rGl pI121_ok (fun _ _ => ⟨_, pR121_ok⟩)) (rGl pI122_ok (fun _ _ => ⟨_, pR122_ok⟩))) (rGc (rGl pI123_ok (fun _ _ => ⟨_, pR123_ok⟩)) (rGc (rGl pI124_ok (fun _ _ => ⟨_, pR124_ok⟩)) (rGl pI125_ok (fun _ _ => ⟨_, pR125_ok⟩))))))) (rGc (rGc (rGc (rGc (rGl pI126_ok (fun _ _ => ⟨_, pR126_ok⟩)) (rGl pI127_ok (fun _ _ => ⟨_, pR127_ok⟩))) (rGc (rGl pI128_ok (fun _ _ => ⟨_, pR128_ok⟩)) (rGl pI129_ok (fun _ _ => ⟨_, pR129_ok⟩)))) (rGc (rGc (rGl pI130_ok (fun _ _ => ⟨_, pR130_ok⟩)) (rGl pI131_ok (fun _ _ => ⟨_, pR131_ok⟩))) (rGc (rGl pI132_ok (fun _ _ => ⟨_, pR132_ok⟩)) (rGc (rGl pI133_ok (fun _ _ => ⟨_, pR133_ok⟩)) (rGl pI134_ok (fun _ _ => ⟨_, pR134_ok⟩)))))) (rGc (rGc (rGc (rGl pI135_ok (fun _ _ => ⟨_, pR135_ok⟩)) (rGl pI136_ok (fun _ _ => ⟨_, pR136_ok⟩))) (rGc (rGl pI137_ok (fun _ _ => ⟨_, pR137_ok⟩)) (rGl pI138_ok (fun _ _ => ⟨_, pR138_ok⟩)))) (rGc (rGc (rGl pI139_ok (fun _ _ => ⟨_, pR139_ok⟩)) (rGl pI140_ok (fun _ _ => ⟨_, pR140_ok⟩))) (rGc (rGl pI141_ok (fun _ _ => ⟨_, pR141_ok⟩)) (rGc (rGl pI142_ok (fun _ _ => ⟨_, pR142_ok⟩)) (rGl pI143_ok (fun _ _ => ⟨_, pR143_ok⟩)))))))))) (rGc (rGc (rGc (rGc (rGc (rGc (rGc (rGl pI144_ok (fun _ _ => ⟨_, pR144_ok⟩)) (rGl pI145_ok (fun _ _ => ⟨_, pR145_ok⟩))) (rGc (rGl pI146_ok (fun _ _ => ⟨_, pR146_ok⟩)) (rGl pI147_ok (fun _ _ => ⟨_, pR147_ok⟩)))) (rGc (rGc (rGl pI148_ok (fun _ _ => ⟨_, pR148_ok⟩)) (rGl pI149_ok (fun _ _ => ⟨_, pR149_ok⟩))) (rGc (rGl pI150_ok (fun _ _ => ⟨_, pR150_ok⟩)) (rGc (rGl pI151_ok (fun _ _ => ⟨_, pR151_ok⟩)) (rGl pI152_ok (fun _ _ => ⟨_, pR152_ok⟩)))))) (rGc (rGc (rGc (rGl pI153_ok (fun _ _ => ⟨_, pR153_ok⟩)) (rGl pI154_ok (fun _ _ => ⟨_, pR154_ok⟩))) (rGc (rGl pI155_ok (fun _ _ => ⟨_, pR155_ok⟩)) (rGl pI156_ok (fun _ _ => ⟨_, pR156_ok⟩)))) (rGc (rGc (rGl pI157_ok (fun _ _ => ⟨_, pR157_ok⟩)) (rGl pI158_ok (fun _ _ => ⟨_, pR158_ok⟩))) (rGc (rGl pI159_ok (fun _ _ => ⟨_, pR159_ok⟩)) (rGc (rGl pI160_ok (fun _ _ => ⟨_, pR160_ok⟩)) (rGl pI161_ok (fun _ _ => ⟨_, pR161_ok⟩))))))) (rGc (rGc (rGc (rGc (rGl pI162_ok (fun _ _ => ⟨_, pR162_ok⟩)) (rGl pI163_ok (fun _ _ => ⟨_, pR163_ok⟩))) (rGc (rGl pI164_ok (fun _ _ => ⟨_, pR164_ok⟩)) (rGl pI165_ok (fun _ _ => ⟨_, pR165_ok⟩)))) (rGc (rGc (rGl pI166_ok (fun _ _ => ⟨_, pR166_ok⟩)) (rGl pI167_ok (fun _ _ => ⟨_, pR167_ok⟩))) (rGc (rGl pI168_ok (fun _ _ => ⟨_, pR168_ok⟩)) (rGc (rGl pI169_ok (fun _ _ => ⟨_, pR169_ok⟩)) (rGl pI170_ok (fun _ _ => ⟨_, pR170_ok⟩)))))) (rGc (rGc (rGc (rGl pI171_ok (fun _ _ => ⟨_, pR171_ok⟩)) (rGl pI172_ok (fun _ _ => ⟨_, pR172_ok⟩))) (rGc (rGl pI173_ok (fun _ _ => ⟨_, pR173_ok⟩)) (rGl pI174_ok (fun _ _ => ⟨_, pR174_ok⟩)))) (rGc (rGc (rGl pI175_ok (fun _ _ => ⟨_, pR175_ok⟩)) (rGl pI176_ok (fun _ _ => ⟨_, pR176_ok⟩))) (rGc (rGl pI177_ok (fun _ _ => ⟨_, pR177_ok⟩)) (rGc (rGl pI178_ok (fun _ _ => ⟨_, pR178_ok⟩)) (rGl pI179_ok (fun _ _ => ⟨_, pR179_ok⟩)))))))) (rGc (rGc (rGc (rGc (rGc (rGl pI180_ok (fun _ _ => ⟨_, pR180_ok⟩)) (rGl pI181_ok (fun _ _ => ⟨_, pR181_ok⟩))) (rGc (rGl pI182_ok (fun _ _ => ⟨_, pR182_ok⟩)) (rGl pI183_ok (fun _ _ => ⟨_, pR183_ok⟩)))) (rGc (rGc (rGl pI184_ok (fun _ _ => ⟨_, pR184_ok⟩)) (rGl pI185_ok (fun _ _ => ⟨_, pR185_ok⟩))) (rGc (rGl pI186_ok (fun _ _ => ⟨_, pR186_ok⟩)) (rGc (rGl pI187_ok (fun _ _ => ⟨_, pR187_ok⟩)) (rGl pI188_ok (fun _ _ => ⟨_, pR188_ok⟩)))))) (rGc (rGc (rGc (rGl pI189_ok (fun _ _ => ⟨_, pR189_ok⟩)) (rGl pI190_ok (fun _ _ => ⟨_, pR190_ok⟩))) (rGc (rGl pI191_ok (fun _ _ => ⟨_, pR191_ok⟩)) (rGl pI192_ok (fun _ _ => ⟨_, pR192_ok⟩)))) (rGc (rGc (rGl pI193_ok (fun _ _ => ⟨_, pR193_ok⟩)) (rGl pI194_ok (fun _ _ => ⟨_, pR194_ok⟩))) (rGc (rGl pI195_ok (fun _ _ => ⟨_, pR195_ok⟩)) (rGc (rGl pI196_ok (fun _ _ => ⟨_, pR196_ok⟩)) (rGl pI197_ok (fun _ _ => ⟨_, pR197_ok⟩))))))) (rGc (rGc (rGc (rGc (rGl pI198_ok (fun _ _ => ⟨_, pR198_ok⟩)) (rGl pI199_ok (fun _ _ => ⟨_, pR199_ok⟩))) (rGc (rGl pI200_ok (fun _ _ => ⟨_, pR200_ok⟩)) (rGl pI201_ok (fun _ _ => ⟨_, pR201_ok⟩)))) (rGc (rGc (rGl pI202_ok (fun _ _ => ⟨_, pR202_ok⟩)) (rGl pI203_ok (fun _ _ => ⟨_, pR203_ok⟩))) (rGc (rGl pI204_ok (fun _ _ => ⟨_, pR204_ok⟩)) (rGc (rGl pI205_ok (fun _ _ => ⟨_, pR205_ok⟩)) (rGl pI206_ok (fun _ _ => ⟨_, pR206_ok⟩)))))) (rGc (rGc (rGc (rGl pI207_ok (fun _ _ => ⟨_, pR207_ok⟩)) (rGl pI208_ok (fun _ _ => ⟨_, pR208_ok⟩))) (rGc (rGl pI209_ok (fun _ _ => ⟨_, pR209_ok⟩)) (rGl pI210_ok (fun _ _ => ⟨_, pR210_ok⟩)))) (rGc (rGc (rGl pI211_ok (fun _ _ => ⟨_, pR211_ok⟩)) (rGl pI212_ok (fun _ _ => ⟨_, pR212_ok⟩))) (rGc (rGl pI213_ok (fun _ _ => ⟨_, pR213_ok⟩)) (rGc (rGl pI214_ok (fun _ _ => ⟨_, pR214_ok⟩)) (rGl pI215_ok (fun _ _ => ⟨_, pR215_ok⟩))))))))) (rGc (rGc (rGc (rGc (rGc (rGc (rGl pI216_ok (fun _ _ => ⟨_, pR216_ok⟩)) (rGl pI217_ok (fun _ _ => ⟨_, pR217_ok⟩))) (rGc (rGl pI218_ok (fun _ _ => ⟨_, pR218_ok⟩)) (rGl pI219_ok (fun _ _ => ⟨_, pR219_ok⟩)))) (rGc (rGc (rGl pI220_ok (fun _ _ => ⟨_, pR220_ok⟩)) (rGl pI221_ok (fun _ _ => ⟨_, pR221_ok⟩))) (rGc (rGl pI222_ok (fun _ _ => ⟨_, pR222_ok⟩)) (rGc (rGl pI223_ok (fun _ _ => ⟨_, pR223_ok⟩)) (rGl pI224_ok (fun _ _ => ⟨_, pR224_ok⟩)))))) (rGc (rGc (rGc (rGl pI225_ok (fun _ _ => ⟨_, pR225_ok⟩)) (rGl pI226_ok (fun _ _ => ⟨_, pR226_ok⟩))) (rGc (rGl pI227_ok (fun _ _ => ⟨_, pR227_ok⟩)) (rGl pI228_ok (fun _ _ => ⟨_, pR228_ok⟩)))) (rGc (rGc (rGl pI229_ok (fun _ _ => ⟨_, pR229_ok⟩)) (rGl pI230_ok (fun _ _ => ⟨_, pR230_ok⟩))) (rGc (rGl pI231_ok (fun _ _ => ⟨_, pR231_ok⟩)) (rGc (rGl pI232_ok (fun _ _ => ⟨_, pR232_ok⟩)) (rGl pI233_ok (fun _ _ => ⟨_, pR233_ok⟩))))))) (rGc (rGc (rGc (rGc (rGl pI234_ok (fun _ _ => ⟨_, pR234_ok⟩)) (rGl pI235_ok (fun _ _ => ⟨_, pR235_ok⟩))) (rGc (rGl pI236_ok (fun _ _ => ⟨_, pR236_ok⟩)) (rGl pI237_ok (fun _ _ => ⟨_, pR237_ok⟩)))) (rGc (rGc (rGl pI238_ok (fun _ _ => ⟨_, pR238_ok⟩)) (rGl pI239_ok (fun _ _ => ⟨_, pR239_ok⟩))) (rGc (rGl pI240_ok (fun _ _ => ⟨_, pR240_ok⟩)) (rGc (rGl pI241_ok (fun _ _ => ⟨_, pR241_ok⟩)) (rGl pI242_ok (fun _ _ => ⟨_, pR242_ok⟩)))))) (rGc (rGc (rGc (rGl pI243_ok (fun _ _ => ⟨_, pR243_ok⟩)) (rGl pI244_ok (fun _ _ => ⟨_, pR244_ok⟩))) (rGc (rGl pI245_ok (fun _ _ => ⟨_, pR245_ok⟩)) (rGl pI246_ok (fun _ _ => ⟨_, pR246_ok⟩)))) (rGc (rGc (rGl pI247_ok (fun _ _ => ⟨_, pR247_ok⟩)) (rGl pI248_ok (fun _ _ => ⟨_, pR248_ok⟩))) (rGc (rGl pI249_ok (fun _ _ => ⟨_, pR249_ok⟩)) (rGc (rGl pI250_ok (fun _ _ => ⟨_, pR250_ok⟩)) (rGl pI251_ok (fun _ _ => ⟨_, pR251_ok⟩)))))))) (rGc (rGc (rGc (rGc (rGc (rGl pI252_ok (fun _ _ => ⟨_, pR252_ok⟩)) (rGl pI253_ok (fun _ _ => ⟨_, pR253_ok⟩))) (rGc (rGl pI254_ok (fun _ _ => ⟨_, pR254_ok⟩)) (rGl pI255_ok (fun _ _ => ⟨_, pR255_ok⟩)))) (rGc (rGc (rGl pI256_ok (fun _ _ => ⟨_, pR256_ok⟩)) (rGl pI257_ok (fun _ _ => ⟨_, pR257_ok⟩))) (rGc (rGl pI258_ok (fun _ _ => ⟨_, pR258_ok⟩)) (rGc (rGl pI259_ok (fun _ _ => ⟨_, pR259_ok⟩)) (rGl pI260_ok (fun _ _ => ⟨_, pR260_ok⟩)))))) (rGc (rGc (rGc (rGl pI261_ok (fun _ _ => ⟨_, pR261_ok⟩)) (rGl pI262_ok (fun _ _ => ⟨_, pR262_ok⟩))) (rGc (rGl pI263_ok (fun _ _ => ⟨_, pR263_ok⟩)) (rGl pI264_ok (fun _ _ => ⟨_, pR264_ok⟩)))) (rGc (rGc (rGl pI265_ok (fun _ _ => ⟨_, pR265_ok⟩)) (rGl pI266_ok (fun _ _ => ⟨_, pR266_ok⟩))) (rGc (rGl pI267_ok (fun _ _ => ⟨_, pR267_ok⟩)) (rGc (rGl pI268_ok (fun _ _ => ⟨_, pR268_ok⟩)) (rGl pI269_ok (fun _ _ => ⟨_, pR269_ok⟩))))))) (rGc (rGc (rGc (rGc (rGl pI270_ok (fun _ _ => ⟨_, pR270_ok⟩)) (rGl pI271_ok (fun _ _ => ⟨_, pR271_ok⟩))) (rGc (rGl pI272_ok (fun _ _ => ⟨_, pR272_ok⟩)) (rGl pI273_ok (fun _ _ => ⟨_, pR273_ok⟩)))) (rGc (rGc (rGl pI274_ok (fun _ _ => ⟨_, pR274_ok⟩)) (rGl pI275_ok (fun _ _ => ⟨_, pR275_ok⟩))) (rGc (rGl pI276_ok (fun _ _ => ⟨_, pR276_ok⟩)) (rGc (rGl pI277_ok (fun _ _ => ⟨_, pR277_ok⟩)) (rGl pI278_ok (fun _ _ => ⟨_, pR278_ok⟩)))))) (rGc (rGc (rGc (rGl pI279_ok (fun _ _ => ⟨_, pR279_ok⟩)) (rGl pI280_ok (fun _ _ => ⟨_, pR280_ok⟩))) (rGc (rGl pI281_ok (fun _ _ => ⟨_, pR281_ok⟩)) (rGl pI282_ok (fun _ _ => ⟨_, pR282_ok⟩)))) (rGc (rGc (rGl pI283_ok (fun _ _ => ⟨_, pR283_ok⟩)) (rGl pI284_ok (fun _ _ => ⟨_, pR284_ok⟩))) (rGc (rGl pI285_ok (fun _ _ => ⟨_, pR285_ok⟩)) (rGc (rGl pI286_ok (fun _ _ => ⟨_, pR286_ok⟩)) (rGl pI287_ok (fun h g => absurd (Nat.eq_of_beq_eq_true h) g)))))))))))
