/-! what the tables of the program rest on: the Statement's own words -/
theorem z_dec_of : ∀ (cs : List (List (Nat × Instr × Nat))) (bs : List ByteArray), z_okI cs bs → ∀ (y : Nat) (q : Nat × Instr × Nat), q ∈ cs.getD y [] → decode (bs.getD y ⟨#[]⟩) q.1 = .ok q.2
  | [], bs, _, y, q, hq => by simp at hq
  | c :: cs, [], h, _, _, _ => h.elim
  | c :: cs, b :: bs, h, 0, q, hq => h.1 q (by simpa using hq)
  | c :: cs, b :: bs, h, y + 1, q, hq => by
    have h2 := z_dec_of cs bs h.2 y q (by simpa using hq)
    simpa using h2
theorem z_key_mem {α : Type} {l : List (Nat × α)} {i : Nat} {x : α} (h : z_key l i = some x) : (i, x) ∈ l := by
  induction l with
  | nil => cases h
  | cons q l ih =>
    obtain ⟨k, v⟩ := q
    unfold z_key at h
    by_cases hk : k = i
    · rw [if_pos hk] at h; cases h; subst hk; exact List.mem_cons_self
    · rw [if_neg hk] at h; exact List.mem_cons_of_mem _ (ih h)
theorem z_dec {y pc : Nat} {q : Instr × Nat} (h : z_ins y pc = some q) : decode (z_bc y) pc = .ok q := z_dec_of z_cod z_bcs z_ciA y (pc, q) (z_key_mem h)
def z_tyOk (ty : Nat) (d : String) : Bool := match parseFieldDescriptor d with
  | some ft => if ty = 0 then decide (ft = .int) else if ty = 1 then decide (ft = .boolean) else ft.isReference
  | none => false
def z_rkOk (k : Nat) (t : Option FieldType) : Bool := if k = 0 then decide (t = none) else if k = 1 then decide (t = some .int) else if k = 2 then decide (t = some .boolean) else if k = 3 then decide (t = some .byte) else if k = 4 then decide (t = some .char) else match t with | some (.object _) => true | some (.array _) => true | _ => false
theorem z_zip {α : Type} {T : List α} {P : List Nat} {g : α → Cond} (hl : T.length ≤ P.length) (h : ∀ x ∈ T.zip P, lw_tbl[x.2]? = some (g x.1)) : ∀ q ∈ T, g q ∈ lw_tbl := by
  intro q hq
  obtain ⟨i, hi⟩ := List.getElem?_of_mem hq
  have hl2 : i < T.length := (List.getElem?_eq_some_iff.mp hi).1
  have hp : P[i]? = some (P[i]'(by omega)) := List.getElem?_eq_getElem (by omega)
  have hz : (T.zip P)[i]? = some (q, P[i]'(by omega)) := by rw [List.getElem?_zip_eq_some]; exact ⟨hi, hp⟩
  exact List.mem_of_getElem? (h _ (List.mem_of_getElem? hz))
theorem z_zip2 {T : List Cond} {P : List Nat} (hl : T.length ≤ P.length) (h : ∀ x ∈ T.zip P, lw_tbl[x.2]? = some x.1 ∧ goodWord x.1 = true) : ∀ q ∈ T, q ∈ lw_tbl ∧ goodWord q = true := by
  intro q hq
  obtain ⟨i, hi⟩ := List.getElem?_of_mem hq
  have hl2 : i < T.length := (List.getElem?_eq_some_iff.mp hi).1
  have hp : P[i]? = some (P[i]'(by omega)) := List.getElem?_eq_getElem (by omega)
  have hz : (T.zip P)[i]? = some (q, P[i]'(by omega)) := by rw [List.getElem?_zip_eq_some]; exact ⟨hi, hp⟩
  have h2 := h _ (List.mem_of_getElem? hz)
  exact ⟨List.mem_of_getElem? h2.1, h2.2⟩
theorem z_zip3 {n a y : Nat} {P : List Nat} {g : Nat → Cond} (h : ∀ x ∈ ((List.range n).zip P).drop a, lw_tbl[x.2]? = some (g x.1)) (hl : n ≤ P.length) (h1 : ¬ y < a) (h2 : y < n) : g y ∈ lw_tbl := by
  have hp : P[y]? = some (P[y]'(by omega)) := List.getElem?_eq_getElem (by omega)
  have hz : ((List.range n).zip P)[y]? = some (y, P[y]'(by omega)) := by rw [List.getElem?_zip_eq_some]; exact ⟨by rw [List.getElem?_range h2], hp⟩
  have hd : (((List.range n).zip P).drop a)[y - a]? = some (y, P[y]'(by omega)) := by rw [List.getElem?_drop, show a + (y - a) = y by omega]; exact hz
  exact List.mem_of_getElem? (h _ (List.mem_of_getElem? hd))
def z_fldP : List Nat := [371, 372, 373, 374, 375, 376, 377, 378, 107, 111, 115, 463, 461, 121, 122, 124, 118, 450, 453, 165, 167, 169, 218, 213, 194, 216, 239, 264, 272, 331, 339, 337, 345, 649, 650, 651, 652, 653, 654, 116, 113, 109, 308, 309, 310, 311, 312, 163, 164, 166, 168, 257, 258, 259, 260, 261, 262, 265, 266, 267, 270, 263, 268, 269, 271, 467, 468, 469, 470, 471, 448, 451, 454, 456, 459, 464, 462, 465, 234, 235, 236, 237, 238, 212, 214, 217, 197, 193, 215, 108, 457, 106, 110, 112, 117, 119, 126, 127, 128, 114, 460, 452, 455, 466, 458, 120, 449, 123, 125, 332, 333, 334, 335, 336, 340, 341, 342, 343, 338, 330, 344, 191, 196, 192, 198, 195, 1110, 1111, 1113, 1114, 1115, 1116, 1117, 1118, 1119, 1120, 1121, 1123, 1124, 1127, 1129, 1130, 1131, 1132, 1133, 1134, 1137, 1139, 1140, 1141, 1144, 1146, 1150, 1152, 1153, 1154, 1155, 1157, 1158, 1160, 1161, 1162, 1112, 1159, 1156, 1122, 1128, 1125, 1135, 1126, 1136, 1138, 1142, 1143, 1145, 1147, 1148, 1149, 1151, 1617, 1616]
def z_fw (q : Nat × Nat × Nat × Nat × Bool) : Cond := if q.2.1 < 12 then Cond.fieldLink (z_own (q.1 / 2000)) (q.1 % 2000) (z_own q.2.1) (z_T q.2.1 q.2.2.1).2.1 (z_T q.2.1 q.2.2.1).2.2.1 else if q.2.2.1 = 0 then Cond.fieldLink (z_own (q.1 / 2000)) (q.1 % 2000) "java/lang/String" "value" "[B" else Cond.fieldLink (z_own (q.1 / 2000)) (q.1 % 2000) "java/lang/String" "coder" "B"
theorem z_fwZ : ∀ x ∈ z_fldT.zip z_fldP, lw_tbl[x.2]? = some (z_fw x.1) := by decide +kernel
theorem z_fwA : ∀ q ∈ z_fldT, z_fw q ∈ lw_tbl := z_zip (by decide +kernel) z_fwZ
theorem z_fwB : ∀ q ∈ z_fldT, q.2.1 < 12 → (z_T q.2.1 q.2.2.1).1 = z_own q.2.1 ∧ q.2.2.1 < z_N q.2.1 ∧ (z_T q.2.1 q.2.2.1).2.2.2 = q.2.2.2.2 ∧ z_tyOk q.2.2.2.1 (z_T q.2.1 q.2.2.1).2.2.1 = true := by decide +kernel
theorem z_fwC : ∀ q ∈ z_fldT, 12 ≤ q.2.1 → q.2.1 = 12 ∧ (q.2.2.1 = 0 ∧ q.2.2.2.1 = 2 ∨ q.2.2.1 = 1 ∧ q.2.2.2.1 = 0) := by decide +kernel
theorem z_okFA : ∀ q ∈ z_fldT, q.2.1 < 12 → Cond.fieldLink (z_own (q.1 / 2000)) (q.1 % 2000) (z_own q.2.1) (z_T q.2.1 q.2.2.1).2.1 (z_T q.2.1 q.2.2.1).2.2.1 ∈ lw_tbl ∧ (z_T q.2.1 q.2.2.1).1 = z_own q.2.1 ∧ q.2.2.1 < z_N q.2.1 ∧ (z_T q.2.1 q.2.2.1).2.2.2 = q.2.2.2.2 ∧ z_tyOk q.2.2.2.1 (z_T q.2.1 q.2.2.1).2.2.1 = true := fun q hq hc => ⟨by have h := z_fwA q hq; unfold z_fw at h; rw [if_pos hc] at h; exact h, z_fwB q hq hc⟩
theorem z_okF12 : ∀ q ∈ z_fldT, 12 ≤ q.2.1 → q.2.1 = 12 ∧ ((q.2.2.1 = 0 ∧ q.2.2.2.1 = 2 ∧ Cond.fieldLink (z_own (q.1 / 2000)) (q.1 % 2000) "java/lang/String" "value" "[B" ∈ lw_tbl) ∨ (q.2.2.1 = 1 ∧ q.2.2.2.1 = 0 ∧ Cond.fieldLink (z_own (q.1 / 2000)) (q.1 % 2000) "java/lang/String" "coder" "B" ∈ lw_tbl)) := fun q hq hc => by
  have h := z_fwA q hq
  unfold z_fw at h
  rw [if_neg (by omega)] at h
  obtain ⟨h1, ⟨h2, h3⟩ | ⟨h2, h3⟩⟩ := z_fwC q hq hc
  · rw [if_pos h2] at h; exact ⟨h1, Or.inl ⟨h2, h3, h⟩⟩
  · rw [if_neg (by omega)] at h; exact ⟨h1, Or.inr ⟨h2, h3, h⟩⟩
def z_layP0 : List Nat := [655, 657, 659, 661, 663, 665]
theorem z_layZ0 : ∀ x ∈ (u_ws RX0 TX0 6).zip z_layP0, lw_tbl[x.2]? = some x.1 ∧ goodWord x.1 = true := by decide +kernel
def z_layP1 : List Nat := [313, 315, 317, 319, 321]
theorem z_layZ1 : ∀ x ∈ (u_ws RX1 TX1 5).zip z_layP1, lw_tbl[x.2]? = some x.1 ∧ goodWord x.1 = true := by decide +kernel
def z_layP2 : List Nat := [170, 172, 174, 176]
theorem z_layZ2 : ∀ x ∈ (u_ws RX2 TX2 4).zip z_layP2, lw_tbl[x.2]? = some x.1 ∧ goodWord x.1 = true := by decide +kernel
def z_layP3 : List Nat := [273, 275, 277, 279, 281, 283, 285, 287, 289, 291, 293, 295, 297, 299]
theorem z_layZ3 : ∀ x ∈ (u_ws RX3 TX3 14).zip z_layP3, lw_tbl[x.2]? = some x.1 ∧ goodWord x.1 = true := by decide +kernel
def z_layP4 : List Nat := [472, 474, 476, 478, 480, 482, 484, 486, 488, 490, 492, 494, 496]
theorem z_layZ4 : ∀ x ∈ (u_ws RX4 TX4 13).zip z_layP4, lw_tbl[x.2]? = some x.1 ∧ goodWord x.1 = true := by decide +kernel
def z_layP5 : List Nat := [240, 242, 244, 246, 248]
theorem z_layZ5 : ∀ x ∈ (u_ws RX5 TX5 5).zip z_layP5, lw_tbl[x.2]? = some x.1 ∧ goodWord x.1 = true := by decide +kernel
def z_layP6 : List Nat := [219, 221, 223, 225]
theorem z_layZ6 : ∀ x ∈ (u_ws RX6 TX6 4).zip z_layP6, lw_tbl[x.2]? = some x.1 ∧ goodWord x.1 = true := by decide +kernel
def z_layP7 : List Nat := [129, 131, 133, 135, 137, 139, 141, 143, 145, 147, 149, 151]
theorem z_layZ7 : ∀ x ∈ (u_ws RX7 TX7 12).zip z_layP7, lw_tbl[x.2]? = some x.1 ∧ goodWord x.1 = true := by decide +kernel
def z_layP8 : List Nat := [346, 348, 350, 352, 354, 356, 358, 360, 362, 364, 366, 368]
theorem z_layZ8 : ∀ x ∈ (u_ws RX8 TX8 12).zip z_layP8, lw_tbl[x.2]? = some x.1 ∧ goodWord x.1 = true := by decide +kernel
def z_layP9 : List Nat := [199, 201, 203, 205, 207]
theorem z_layZ9 : ∀ x ∈ (u_ws RX9 TX9 5).zip z_layP9, lw_tbl[x.2]? = some x.1 ∧ goodWord x.1 = true := by decide +kernel
def z_layP10 : List Nat := [379, 381, 383, 385, 387, 389, 391, 393]
theorem z_layZ10 : ∀ x ∈ (u_ws RX10 TX10 8).zip z_layP10, lw_tbl[x.2]? = some x.1 ∧ goodWord x.1 = true := by decide +kernel
def z_layP11 : List Nat := [1163, 1165, 1167, 1169, 1171, 1173, 1175, 1177, 1179, 1181, 1183, 1185, 1187, 1189, 1191, 1193, 1195, 1197, 1199, 1201, 1203, 1205, 1207, 1209, 1211, 1213, 1215, 1217, 1219, 1221, 1223, 1225, 1227, 1229, 1231, 1233, 1235, 1237, 1239, 1241, 1243, 1245, 1247, 1249, 1251, 1253, 1255, 1257, 1259, 1261, 1263, 1265, 1267]
theorem z_layZ11 : ∀ x ∈ (u_ws RX11 TX11 53).zip z_layP11, lw_tbl[x.2]? = some x.1 ∧ goodWord x.1 = true := by decide +kernel
theorem z_layA : ∀ k, k < 12 → ∀ w ∈ u_ws (z_vc k).1 (z_T k) (z_N k), w ∈ lw_tbl ∧ goodWord w = true := by
  intro k hk
  match k, hk with
  | 0, _ => exact z_zip2 (by decide +kernel) z_layZ0
  | 1, _ => exact z_zip2 (by decide +kernel) z_layZ1
  | 2, _ => exact z_zip2 (by decide +kernel) z_layZ2
  | 3, _ => exact z_zip2 (by decide +kernel) z_layZ3
  | 4, _ => exact z_zip2 (by decide +kernel) z_layZ4
  | 5, _ => exact z_zip2 (by decide +kernel) z_layZ5
  | 6, _ => exact z_zip2 (by decide +kernel) z_layZ6
  | 7, _ => exact z_zip2 (by decide +kernel) z_layZ7
  | 8, _ => exact z_zip2 (by decide +kernel) z_layZ8
  | 9, _ => exact z_zip2 (by decide +kernel) z_layZ9
  | 10, _ => exact z_zip2 (by decide +kernel) z_layZ10
  | 11, _ => exact z_zip2 (by decide +kernel) z_layZ11
  | k + 12, h => omega
def z_insP : List Nat := [644, 303, 156, 252, 422, 229, 180, 99, 325, 186, 91, 1105]
def z_iniP : List Nat := [83, 78, 73, 77, 81, 76, 74, 72, 79, 75, 71, 80]
theorem z_insZ : ∀ x ∈ (List.range 12).zip z_insP, lw_tbl[x.2]? = some (Cond.instantiable (z_own x.1) (z_N x.1)) := by decide +kernel
theorem z_iniZ : ∀ x ∈ (List.range 12).zip z_iniP, lw_tbl[x.2]? = some (Cond.initialized (z_own x.1)) := by decide +kernel
theorem z_vc1 : ∀ k, k < 12 → vwCl[k]? = some (z_vc k) := by
  intro k hk
  match k, hk with
  | 0, _ | 1, _ | 2, _ | 3, _ | 4, _ | 5, _ | 6, _ | 7, _ | 8, _ | 9, _ | 10, _ | 11, _ => rfl
  | k + 12, h => omega
theorem z_vc2 : ∀ k, k < 12 → (z_vc k).1 = z_own k := by decide +kernel
theorem z_vc3 : ∀ k, k < 12 → (∀ a, a < z_N k → ∀ b, b < z_N k → a ≠ b → (z_T k a).2.1 ≠ (z_T k b).2.1) := by
  intro k hk
  match k, hk with
  | 0, _ => exact nmX0
  | 1, _ => exact nmX1
  | 2, _ => exact nmX2
  | 3, _ => exact nmX3
  | 4, _ => exact nmX4
  | 5, _ => exact nmX5
  | 6, _ => exact nmX6
  | 7, _ => exact nmX7
  | 8, _ => exact nmX8
  | 9, _ => exact nmX9
  | 10, _ => exact nmX10
  | 11, _ => exact nmX11
  | k + 12, h => omega
theorem z_vc4 : ∀ k, k < 12 → (z_fN.getD k []).length = z_N k := by decide +kernel
theorem z_vcA : ∀ k, k < 12 → vwCl[k]? = some (z_vc k) ∧ (z_vc k).1 = z_own k ∧ (∀ a, a < z_N k → ∀ b, b < z_N k → a ≠ b → (z_T k a).2.1 ≠ (z_T k b).2.1) ∧ (z_fN.getD k []).length = z_N k ∧ Cond.instantiable (z_own k) (z_N k) ∈ lw_tbl ∧ Cond.initialized (z_own k) ∈ lw_tbl := fun k hk => ⟨z_vc1 k hk, z_vc2 k hk, z_vc3 k hk, z_vc4 k hk, z_zip (g := fun k => Cond.instantiable (z_own k) (z_N k)) (by decide +kernel) z_insZ k (List.mem_range.mpr hk), z_zip (g := fun k => Cond.initialized (z_own k)) (by decide +kernel) z_iniZ k (List.mem_range.mpr hk)⟩
/-- a field's type, and the value that a new thing has there -/
def z_ft (k j : Nat) : FieldType := (parseFieldDescriptor (z_T k j).2.2.1).getD .int
theorem z_ft1 : ∀ k, k < 12 → ∀ j, j < z_N k → parseFieldDescriptor (z_T k j).2.2.1 = some (z_ft k j) := by decide +kernel
theorem z_ft2 : ∀ k, k < 12 → ∀ j, j < z_N k → ((z_fN.getD k []).getD j 9 = 2 ∧ defaultValue (z_ft k j) = .null ∨ (z_fN.getD k []).getD j 9 ≠ 2 ∧ defaultValue (z_ft k j) = .int 0) := by decide +kernel
theorem z_ftA : ∀ k, k < 12 → ∀ j, j < z_N k → parseFieldDescriptor (z_T k j).2.2.1 = some (z_ft k j) ∧ ((z_fN.getD k []).getD j 9 = 2 ∧ defaultValue (z_ft k j) = .null ∨ (z_fN.getD k []).getD j 9 ≠ 2 ∧ defaultValue (z_ft k j) = .int 0) := fun k hk j hj => ⟨z_ft1 k hk j hj, z_ft2 k hk j hj⟩
theorem z_inT1 {w : Cond} (h : w ∈ tables_1_1) : w ∈ lw_tbl := List.mem_append_right _ (List.mem_append_left _ h)
theorem z_inT2 {w : Cond} (h : w ∈ tables_1_2) : w ∈ lw_tbl := List.mem_append_right _ (List.mem_append_right _ (List.mem_append_left _ h))
theorem z_inT3 {w : Cond} (h : w ∈ tables_1_3) : w ∈ lw_tbl := List.mem_append_right _ (List.mem_append_right _ (List.mem_append_right _ (List.mem_append_left _ h)))
theorem z_inT4 {w : Cond} (h : w ∈ tables_1_4) : w ∈ lw_tbl := List.mem_append_right _ (List.mem_append_right _ (List.mem_append_right _ (List.mem_append_right _ (List.mem_append_left _ h))))
theorem z_inT5 {w : Cond} (h : w ∈ tables_1_5) : w ∈ lw_tbl := List.mem_append_right _ (List.mem_append_right _ (List.mem_append_right _ (List.mem_append_right _ (List.mem_append_right _ (List.mem_append_left _ h)))))
theorem z_inT6 {w : Cond} (h : w ∈ tables_1_6) : w ∈ lw_tbl := List.mem_append_right _ (List.mem_append_right _ (List.mem_append_right _ (List.mem_append_right _ (List.mem_append_right _ (List.mem_append_right _ (List.mem_append_left _ h))))))
theorem z_inT7 {w : Cond} (h : w ∈ tables_1_7) : w ∈ lw_tbl := List.mem_append_right _ (List.mem_append_right _ (List.mem_append_right _ (List.mem_append_right _ (List.mem_append_right _ (List.mem_append_right _ (List.mem_append_right _ (h)))))))
theorem z_cw0 : Cond.code ⟨"StuntSet$Camera", "<init>", "(IIIIII)V"⟩ prog_2_method_1_code 7 (none) ∈ lw_tbl := z_inT3 (List.mem_of_getElem? (i := 97) rfl)
theorem z_cw1 : Cond.code ⟨"StuntSet$Camera", "isOn", "(I)Z"⟩ prog_2_method_2_code 2 (some .boolean) ∈ lw_tbl := z_inT3 (List.mem_of_getElem? (i := 172) rfl)
theorem z_cw2 : Cond.code ⟨"StuntSet$Camera", "views", "(I[I)Z"⟩ prog_2_method_3_code 8 (some .boolean) ∈ lw_tbl := z_inT3 (List.mem_of_getElem? (i := 133) rfl)
theorem z_cw3 : Cond.code ⟨"StuntSet$Camera", "isOpen", "(III[I)Z"⟩ prog_2_method_4_code 8 (some .boolean) ∈ lw_tbl := z_inT3 (List.mem_of_getElem? (i := 141) rfl)
theorem z_cw4 : Cond.code ⟨"StuntSet$Camera", "moversInView", "(LStuntSet$Stage;I)I"⟩ prog_2_method_5_code 5 (some .int) ∈ lw_tbl := z_inT3 (List.mem_of_getElem? (i := 168) rfl)
theorem z_cw5 : Cond.code ⟨"StuntSet$Camera", "quarrelsWith", "(LStuntSet$Camera;[I)Z"⟩ prog_2_method_6_code 3 (some .boolean) ∈ lw_tbl := z_inT3 (List.mem_of_getElem? (i := 157) rfl)
theorem z_cw6 : Cond.code ⟨"StuntSet$Casting", "<init>", "()V"⟩ prog_3_method_1_code 1 (none) ∈ lw_tbl := z_inT1 (List.mem_of_getElem? (i := 236) rfl)
theorem z_cw7 : Cond.code ⟨"StuntSet$Casting", "setMarks", "(II)I"⟩ prog_3_method_2_code 4 (some .int) ∈ lw_tbl := z_inT4 (List.mem_of_getElem? (i := 208) rfl)
theorem z_cw8 : Cond.code ⟨"StuntSet$Casting", "doubleOf", "(I)I"⟩ prog_3_method_3_code 2 (some .int) ∈ lw_tbl := z_inT4 (List.mem_of_getElem? (i := 216) rfl)
theorem z_cw9 : Cond.code ⟨"StuntSet$Casting", "pickFor", "(IIII)V"⟩ prog_3_method_4_code 7 (none) ∈ lw_tbl := z_inT4 (List.mem_of_getElem? (i := 220) rfl)
theorem z_cw10 : Cond.code ⟨"StuntSet$Casting", "keepBetter", "(II)V"⟩ prog_3_method_5_code 4 (none) ∈ lw_tbl := z_inT4 (List.mem_of_getElem? (i := 224) rfl)
theorem z_cw11 : Cond.code ⟨"StuntSet$Casting", "unlikeness", "(II)I"⟩ prog_3_method_6_code 6 (some .int) ∈ lw_tbl := z_inT4 (List.mem_of_getElem? (i := 227) rfl)
theorem z_cw12 : Cond.code ⟨"StuntSet$Crew", "<init>", "()V"⟩ prog_4_method_1_code 1 (none) ∈ lw_tbl := z_inT1 (List.mem_of_getElem? (i := 89) rfl)
theorem z_cw13 : Cond.code ⟨"StuntSet$Crew", "addCamera", "(LStuntSet$Camera;)I"⟩ prog_4_method_2_code 2 (some .int) ∈ lw_tbl := z_inT3 (List.mem_of_getElem? (i := 121) rfl)
theorem z_cw14 : Cond.code ⟨"StuntSet$Crew", "cameraAt", "(I)LStuntSet$Camera;"⟩ prog_4_method_3_code 2 (some (.object "StuntSet$Camera")) ∈ lw_tbl := z_inT3 (List.mem_of_getElem? (i := 129) rfl)
theorem z_cw15 : Cond.code ⟨"StuntSet$Crew", "findQuarrels", "([I)I"⟩ prog_4_method_4_code 5 (some .int) ∈ lw_tbl := z_inT3 (List.mem_of_getElem? (i := 153) rfl)
theorem z_cw16 : Cond.code ⟨"StuntSet$Day", "<init>", "()V"⟩ prog_5_method_1_code 1 (none) ∈ lw_tbl := z_inT1 (List.mem_of_getElem? (i := 185) rfl)
theorem z_cw17 : Cond.code ⟨"StuntSet$Day", "addShot", "(IIIIII)I"⟩ prog_5_method_2_code 7 (some .int) ∈ lw_tbl := z_inT4 (List.mem_of_getElem? (i := 157) rfl)
theorem z_cw18 : Cond.code ⟨"StuntSet$Day", "ofBest", "(I)I"⟩ prog_5_method_3_code 2 (some .int) ∈ lw_tbl := z_inT4 (List.mem_of_getElem? (i := 182) rfl)
theorem z_cw19 : Cond.code ⟨"StuntSet$Day", "search", "(IIII)V"⟩ prog_5_method_4_code 7 (none) ∈ lw_tbl := z_inT4 (List.mem_of_getElem? (i := 161) rfl)
theorem z_cw20 : Cond.code ⟨"StuntSet$Day", "overAt", "(II)I"⟩ prog_5_method_5_code 3 (some .int) ∈ lw_tbl := z_inT4 (List.mem_of_getElem? (i := 169) rfl)
theorem z_cw21 : Cond.code ⟨"StuntSet$Day", "riskBehind", "(II)I"⟩ prog_5_method_6_code 5 (some .int) ∈ lw_tbl := z_inT4 (List.mem_of_getElem? (i := 174) rfl)
theorem z_cw22 : Cond.code ⟨"StuntSet$Day", "keepBetter", "(II)V"⟩ prog_5_method_7_code 4 (none) ∈ lw_tbl := z_inT4 (List.mem_of_getElem? (i := 165) rfl)
theorem z_cw23 : Cond.code ⟨"StuntSet$Day", "addToRow", "(I)I"⟩ prog_5_method_8_code 2 (some .int) ∈ lw_tbl := z_inT4 (List.mem_of_getElem? (i := 190) rfl)
theorem z_cw24 : Cond.code ⟨"StuntSet$Day", "firstWrong", "()I"⟩ prog_5_method_9_code 5 (some .int) ∈ lw_tbl := z_inT4 (List.mem_of_getElem? (i := 198) rfl)
theorem z_cw25 : Cond.code ⟨"StuntSet$Mover", "<init>", "(IIIII)V"⟩ prog_6_method_1_code 6 (none) ∈ lw_tbl := z_inT2 (List.mem_of_getElem? (i := 115) rfl)
theorem z_cw26 : Cond.code ⟨"StuntSet$Mover", "staysOnSet", "(II)Z"⟩ prog_6_method_2_code 5 (some .boolean) ∈ lw_tbl := z_inT2 (List.mem_of_getElem? (i := 212) rfl)
theorem z_cw27 : Cond.code ⟨"StuntSet$Mover", "addLeg", "(IIII)I"⟩ prog_6_method_3_code 5 (some .int) ∈ lw_tbl := z_inT2 (List.mem_of_getElem? (i := 217) rfl)
theorem z_cw28 : Cond.code ⟨"StuntSet$Mover", "setCue", "(II)I"⟩ prog_6_method_4_code 4 (some .int) ∈ lw_tbl := z_inT2 (List.mem_of_getElem? (i := 225) rfl)
theorem z_cw29 : Cond.code ⟨"StuntSet$Mover", "cellAt", "(I)I"⟩ prog_6_method_5_code 2 (some .int) ∈ lw_tbl := z_inT2 (List.mem_of_getElem? (i := 233) rfl)
theorem z_cw30 : Cond.code ⟨"StuntSet$Mover", "moves", "(I)Z"⟩ prog_6_method_6_code 2 (some .boolean) ∈ lw_tbl := z_inT3 (List.mem_of_getElem? (i := 19) rfl)
theorem z_cw31 : Cond.code ⟨"StuntSet$Mover", "walk", "()V"⟩ prog_6_method_7_code 6 (none) ∈ lw_tbl := z_inT2 (List.mem_of_getElem? (i := 120) rfl)
theorem z_cw32 : Cond.code ⟨"StuntSet$Mover", "fillPath", "(III)I"⟩ prog_6_method_8_code 6 (some .int) ∈ lw_tbl := z_inT2 (List.mem_of_getElem? (i := 124) rfl)
theorem z_cw33 : Cond.code ⟨"StuntSet$Mover", "cellStep", "(I)I"⟩ prog_6_method_9_code 1 (some .int) ∈ lw_tbl := z_inT2 (List.mem_of_getElem? (i := 133) rfl)
theorem z_cw34 : Cond.code ⟨"StuntSet$Ramps", "<init>", "()V"⟩ prog_7_method_1_code 1 (none) ∈ lw_tbl := z_inT1 (List.mem_of_getElem? (i := 162) rfl)
theorem z_cw35 : Cond.code ⟨"StuntSet$Ramps", "addRamp", "(IIII)I"⟩ prog_7_method_2_code 5 (some .int) ∈ lw_tbl := z_inT4 (List.mem_of_getElem? (i := 120) rfl)
theorem z_cw36 : Cond.code ⟨"StuntSet$Ramps", "landing", "(II)I"⟩ prog_7_method_3_code 4 (some .int) ∈ lw_tbl := z_inT4 (List.mem_of_getElem? (i := 128) rfl)
theorem z_cw37 : Cond.code ⟨"StuntSet$Ramps", "landingSpeeds", "(II)I"⟩ prog_7_method_4_code 8 (some .int) ∈ lw_tbl := z_inT4 (List.mem_of_getElem? (i := 137) rfl)
theorem z_cw38 : Cond.code ⟨"StuntSet$Script", "<init>", "()V"⟩ prog_8_method_1_code 1 (none) ∈ lw_tbl := z_inT1 (List.mem_of_getElem? (i := 113) rfl)
theorem z_cw39 : Cond.code ⟨"StuntSet$Script", "takeTape", "(I)I"⟩ prog_8_method_2_code 2 (some .int) ∈ lw_tbl := z_inT3 (List.mem_of_getElem? (i := 193) rfl)
theorem z_cw40 : Cond.code ⟨"StuntSet$Script", "isLet", "(ILStuntSet$Stage;LStuntSet$Crew;)Z"⟩ prog_8_method_3_code 6 (some .boolean) ∈ lw_tbl := z_inT4 (List.mem_of_getElem? (i := 80) rfl)
theorem z_cw41 : Cond.code ⟨"StuntSet$Stage", "<init>", "()V"⟩ prog_9_method_1_code 1 (none) ∈ lw_tbl := z_inT1 (List.mem_of_getElem? (i := 32) rfl)
theorem z_cw42 : Cond.code ⟨"StuntSet$Stage", "addMover", "(LStuntSet$Mover;)I"⟩ prog_9_method_2_code 2 (some .int) ∈ lw_tbl := z_inT2 (List.mem_of_getElem? (i := 192) rfl)
theorem z_cw43 : Cond.code ⟨"StuntSet$Stage", "moverAt", "(I)LStuntSet$Mover;"⟩ prog_9_method_3_code 2 (some (.object "StuntSet$Mover")) ∈ lw_tbl := z_inT2 (List.mem_of_getElem? (i := 204) rfl)
theorem z_cw44 : Cond.code ⟨"StuntSet$Stage", "havenCount", "()I"⟩ prog_9_method_4_code 3 (some .int) ∈ lw_tbl := z_inT5 (List.mem_of_getElem? (i := 67) rfl)
theorem z_cw45 : Cond.code ⟨"StuntSet$Stage", "comesNear", "(LStuntSet$Mover;III)Z"⟩ prog_9_method_5_code 8 (some .boolean) ∈ lw_tbl := z_inT3 (List.mem_of_getElem? (i := 24) rfl)
theorem z_cw46 : Cond.code ⟨"StuntSet$Stage", "forgetHits", "(I)V"⟩ prog_9_method_6_code 3 (none) ∈ lw_tbl := z_inT2 (List.mem_of_getElem? (i := 196) rfl)
theorem z_cw47 : Cond.code ⟨"StuntSet$Stage", "hitOf", "(II)I"⟩ prog_9_method_7_code 4 (some .int) ∈ lw_tbl := z_inT3 (List.mem_of_getElem? (i := 3) rfl)
theorem z_cw48 : Cond.code ⟨"StuntSet$Stage", "firstMeeting", "(LStuntSet$Mover;LStuntSet$Mover;)I"⟩ prog_9_method_8_code 6 (some .int) ∈ lw_tbl := z_inT3 (List.mem_of_getElem? (i := 7) rfl)
theorem z_cw49 : Cond.code ⟨"StuntSet$Stage", "findFirstHit", "()Z"⟩ prog_9_method_9_code 4 (some .boolean) ∈ lw_tbl := z_inT3 (List.mem_of_getElem? (i := 32) rfl)
theorem z_cw50 : Cond.code ⟨"StuntSet$Stage", "isDanger", "(III)Z"⟩ prog_9_method_10_code 6 (some .boolean) ∈ lw_tbl := z_inT3 (List.mem_of_getElem? (i := 45) rfl)
theorem z_cw51 : Cond.code ⟨"StuntSet$Stage", "lostAt", "(I)I"⟩ prog_9_method_11_code 4 (some .int) ∈ lw_tbl := z_inT3 (List.mem_of_getElem? (i := 53) rfl)
theorem z_cw52 : Cond.code ⟨"StuntSet$Stage", "escape", "(LStuntSet$Mover;I)I"⟩ prog_9_method_12_code 6 (some .int) ∈ lw_tbl := z_inT3 (List.mem_of_getElem? (i := 57) rfl)
theorem z_cw53 : Cond.code ⟨"StuntSet$Stage", "spreadReach", "()V"⟩ prog_9_method_13_code 3 (none) ∈ lw_tbl := z_inT3 (List.mem_of_getElem? (i := 62) rfl)
theorem z_cw54 : Cond.code ⟨"StuntSet$Stage", "markHarm", "(II)V"⟩ prog_9_method_14_code 4 (none) ∈ lw_tbl := z_inT3 (List.mem_of_getElem? (i := 67) rfl)
theorem z_cw55 : Cond.code ⟨"StuntSet$Stage", "markHarmOf", "(LStuntSet$Mover;II)V"⟩ prog_9_method_15_code 7 (none) ∈ lw_tbl := z_inT3 (List.mem_of_getElem? (i := 71) rfl)
theorem z_cw56 : Cond.code ⟨"StuntSet$Stage", "markSquare", "(II)V"⟩ prog_9_method_16_code 10 (none) ∈ lw_tbl := z_inT3 (List.mem_of_getElem? (i := 75) rfl)
theorem z_cw57 : Cond.code ⟨"StuntSet$Stage", "leaveHarm", "()Z"⟩ prog_9_method_17_code 3 (some .boolean) ∈ lw_tbl := z_inT3 (List.mem_of_getElem? (i := 79) rfl)
theorem z_cw58 : Cond.code ⟨"StuntSet$Stage", "reachesHaven", "()Z"⟩ prog_9_method_18_code 2 (some .boolean) ∈ lw_tbl := z_inT3 (List.mem_of_getElem? (i := 83) rfl)
theorem z_cw59 : Cond.code ⟨"StuntSet$Tables", "<init>", "()V"⟩ prog_10_method_1_code 1 (none) ∈ lw_tbl := z_inT2 (List.mem_of_getElem? (i := 18) rfl)
theorem z_cw60 : Cond.code ⟨"StuntSet$Tables", "addRun", "(III)I"⟩ prog_10_method_2_code 4 (some .int) ∈ lw_tbl := z_inT5 (List.mem_of_getElem? (i := 2) rfl)
theorem z_cw61 : Cond.code ⟨"StuntSet$Tables", "counts", "(II)Z"⟩ prog_10_method_3_code 3 (some .boolean) ∈ lw_tbl := z_inT5 (List.mem_of_getElem? (i := 18) rfl)
theorem z_cw62 : Cond.code ⟨"StuntSet$Tables", "runsNow", "()I"⟩ prog_10_method_4_code 3 (some .int) ∈ lw_tbl := z_inT5 (List.mem_of_getElem? (i := 63) rfl)
theorem z_cw63 : Cond.code ⟨"StuntSet$Tables", "gripOn", "(II)I"⟩ prog_10_method_5_code 6 (some .int) ∈ lw_tbl := z_inT5 (List.mem_of_getElem? (i := 14) rfl)
theorem z_cw64 : Cond.code ⟨"StuntSet$Tables", "stopOn", "(III)I"⟩ prog_10_method_6_code 4 (some .int) ∈ lw_tbl := z_inT5 (List.mem_of_getElem? (i := 27) rfl)
theorem z_cw65 : Cond.code ⟨"StuntSet$Tables", "addPlan", "(III)I"⟩ prog_10_method_7_code 4 (some .int) ∈ lw_tbl := z_inT5 (List.mem_of_getElem? (i := 37) rfl)
theorem z_cw66 : Cond.code ⟨"StuntSet$Tables", "isGood", "(II)Z"⟩ prog_10_method_8_code 3 (some .boolean) ∈ lw_tbl := z_inT5 (List.mem_of_getElem? (i := 45) rfl)
theorem z_cw67 : Cond.code ⟨"StuntSet$Tables", "firstOvertaken", "()I"⟩ prog_10_method_9_code 2 (some .int) ∈ lw_tbl := z_inT5 (List.mem_of_getElem? (i := 54) rfl)
theorem z_cw68 : Cond.code ⟨"StuntSet$Text", "<init>", "()V"⟩ prog_11_method_1_code 1 (none) ∈ lw_tbl := z_inT1 (List.mem_of_getElem? (i := 119) rfl)
theorem z_cw69 : Cond.code ⟨"StuntSet$Text", "append", "(IJ)I"⟩ prog_11_method_2_code 5 (some .int) ∈ lw_tbl := z_inT3 (List.mem_of_getElem? (i := 185) rfl)
theorem z_cw70 : Cond.code ⟨"StuntSet$Text", "copyFrom", "(LStuntSet$Text;)V"⟩ prog_11_method_3_code 3 (none) ∈ lw_tbl := z_inT4 (List.mem_of_getElem? (i := 72) rfl)
theorem z_cw71 : Cond.code ⟨"StuntSet$Text", "mentions", "(I)Z"⟩ prog_11_method_4_code 3 (some .boolean) ∈ lw_tbl := z_inT4 (List.mem_of_getElem? (i := 84) rfl)
theorem z_cw72 : Cond.code ⟨"StuntSet$Text", "holds", "([I)Z"⟩ prog_11_method_5_code 3 (some .boolean) ∈ lw_tbl := z_inT3 (List.mem_of_getElem? (i := 197) rfl)
theorem z_cw73 : Cond.code ⟨"StuntSet$Text", "ors", "(I)Z"⟩ prog_11_method_6_code 7 (some .boolean) ∈ lw_tbl := z_inT3 (List.mem_of_getElem? (i := 201) rfl)
theorem z_cw74 : Cond.code ⟨"StuntSet$Text", "test", "(I)Z"⟩ prog_11_method_7_code 3 (some .boolean) ∈ lw_tbl := z_inT3 (List.mem_of_getElem? (i := 205) rfl)
theorem z_cw75 : Cond.code ⟨"StuntSet$Text", "comparison", "()Z"⟩ prog_11_method_8_code 6 (some .boolean) ∈ lw_tbl := z_inT3 (List.mem_of_getElem? (i := 221) rfl)
theorem z_cw76 : Cond.code ⟨"StuntSet$Text", "unit", "()I"⟩ prog_11_method_9_code 4 (some .int) ∈ lw_tbl := z_inT3 (List.mem_of_getElem? (i := 225) rfl)
theorem z_cw77 : Cond.code ⟨"StuntSet$Text", "isNext", "(C)Z"⟩ prog_11_method_10_code 2 (some .boolean) ∈ lw_tbl := z_inT3 (List.mem_of_getElem? (i := 209) rfl)
theorem z_cw78 : Cond.code ⟨"StuntSet$Text", "accept", "(C)Z"⟩ prog_11_method_11_code 3 (some .boolean) ∈ lw_tbl := z_inT3 (List.mem_of_getElem? (i := 217) rfl)
theorem z_cw79 : Cond.code ⟨"StuntSet$Text", "failAt", "(I)V"⟩ prog_11_method_12_code 2 (none) ∈ lw_tbl := z_inT3 (List.mem_of_getElem? (i := 213) rfl)
theorem z_cw80 : Cond.code ⟨"StuntSet", "<init>", "()V"⟩ prog_1_method_1_code 1 (none) ∈ lw_tbl := z_inT1 (List.mem_of_getElem? (i := 24) rfl)
theorem z_cw81 : Cond.code ⟨"StuntSet", "cover", "(IZ)I"⟩ prog_1_method_2_code 3 (some .int) ∈ lw_tbl := z_inT2 (List.mem_of_getElem? (i := 89) rfl)
theorem z_cw82 : Cond.code ⟨"StuntSet", "safe", "(IZ)I"⟩ prog_1_method_3_code 3 (some .int) ∈ lw_tbl := z_inT2 (List.mem_of_getElem? (i := 106) rfl)
theorem z_cw83 : Cond.code ⟨"StuntSet", "mover", "(IIIII)I"⟩ prog_1_method_4_code 6 (some .int) ∈ lw_tbl := z_inT2 (List.mem_of_getElem? (i := 110) rfl)
theorem z_cw84 : Cond.code ⟨"StuntSet", "leg", "(IIIII)I"⟩ prog_1_method_5_code 7 (some .int) ∈ lw_tbl := z_inT2 (List.mem_of_getElem? (i := 200) rfl)
theorem z_cw85 : Cond.code ⟨"StuntSet", "cue", "(III)I"⟩ prog_1_method_6_code 5 (some .int) ∈ lw_tbl := z_inT2 (List.mem_of_getElem? (i := 221) rfl)
theorem z_cw86 : Cond.code ⟨"StuntSet", "place", "(III)I"⟩ prog_1_method_7_code 5 (some .int) ∈ lw_tbl := z_inT2 (List.mem_of_getElem? (i := 229) rfl)
theorem z_cw87 : Cond.code ⟨"StuntSet", "hit", "(II)I"⟩ prog_1_method_8_code 4 (some .int) ∈ lw_tbl := z_inT2 (List.mem_of_getElem? (i := 237) rfl)
theorem z_cw88 : Cond.code ⟨"StuntSet", "firstHit", "(I)I"⟩ prog_1_method_9_code 2 (some .int) ∈ lw_tbl := z_inT3 (List.mem_of_getElem? (i := 28) rfl)
theorem z_cw89 : Cond.code ⟨"StuntSet", "stride", "(I)I"⟩ prog_1_method_10_code 3 (some .int) ∈ lw_tbl := z_inT3 (List.mem_of_getElem? (i := 37) rfl)
theorem z_cw90 : Cond.code ⟨"StuntSet", "danger", "(III)I"⟩ prog_1_method_11_code 5 (some .int) ∈ lw_tbl := z_inT3 (List.mem_of_getElem? (i := 41) rfl)
theorem z_cw91 : Cond.code ⟨"StuntSet", "abort", "(I)I"⟩ prog_1_method_12_code 2 (some .int) ∈ lw_tbl := z_inT3 (List.mem_of_getElem? (i := 49) rfl)
theorem z_cw92 : Cond.code ⟨"StuntSet", "saved", "(II)I"⟩ prog_1_method_13_code 4 (some .int) ∈ lw_tbl := z_inT3 (List.mem_of_getElem? (i := 87) rfl)
theorem z_cw93 : Cond.code ⟨"StuntSet", "camera", "(IIIIII)I"⟩ prog_1_method_14_code 7 (some .int) ∈ lw_tbl := z_inT3 (List.mem_of_getElem? (i := 92) rfl)
theorem z_cw94 : Cond.code ⟨"StuntSet", "sees", "(II)I"⟩ prog_1_method_15_code 4 (some .int) ∈ lw_tbl := z_inT3 (List.mem_of_getElem? (i := 125) rfl)
theorem z_cw95 : Cond.code ⟨"StuntSet", "quarrels", "(I)I"⟩ prog_1_method_16_code 3 (some .int) ∈ lw_tbl := z_inT3 (List.mem_of_getElem? (i := 149) rfl)
theorem z_cw96 : Cond.code ⟨"StuntSet", "picture", "(II)I"⟩ prog_1_method_17_code 4 (some .int) ∈ lw_tbl := z_inT3 (List.mem_of_getElem? (i := 164) rfl)
theorem z_cw97 : Cond.code ⟨"StuntSet", "tell", "(II)I"⟩ prog_1_method_18_code 4 (some .int) ∈ lw_tbl := z_inT3 (List.mem_of_getElem? (i := 177) rfl)
theorem z_cw98 : Cond.code ⟨"StuntSet", "feed", "(IJ)I"⟩ prog_1_method_19_code 4 (some .int) ∈ lw_tbl := z_inT3 (List.mem_of_getElem? (i := 181) rfl)
theorem z_cw99 : Cond.code ⟨"StuntSet", "text", "(I)I"⟩ prog_1_method_20_code 2 (some .int) ∈ lw_tbl := z_inT3 (List.mem_of_getElem? (i := 189) rfl)
theorem z_cw100 : Cond.code ⟨"StuntSet", "lets", "(I)I"⟩ prog_1_method_21_code 2 (some .int) ∈ lw_tbl := z_inT4 (List.mem_of_getElem? (i := 76) rfl)
theorem z_cw101 : Cond.code ⟨"StuntSet", "take", "()I"⟩ prog_1_method_22_code 1 (some .int) ∈ lw_tbl := z_inT4 (List.mem_of_getElem? (i := 112) rfl)
theorem z_cw102 : Cond.code ⟨"StuntSet", "ramp", "(IIII)I"⟩ prog_1_method_23_code 5 (some .int) ∈ lw_tbl := z_inT4 (List.mem_of_getElem? (i := 116) rfl)
theorem z_cw103 : Cond.code ⟨"StuntSet", "lands", "(II)I"⟩ prog_1_method_24_code 3 (some .int) ∈ lw_tbl := z_inT4 (List.mem_of_getElem? (i := 124) rfl)
theorem z_cw104 : Cond.code ⟨"StuntSet", "speeds", "(II)I"⟩ prog_1_method_25_code 3 (some .int) ∈ lw_tbl := z_inT4 (List.mem_of_getElem? (i := 133) rfl)
theorem z_cw105 : Cond.code ⟨"StuntSet", "bags", "(II)I"⟩ prog_1_method_26_code 3 (some .int) ∈ lw_tbl := z_inT4 (List.mem_of_getElem? (i := 142) rfl)
theorem z_cw106 : Cond.code ⟨"StuntSet", "fire", "(IIII)I"⟩ prog_1_method_27_code 6 (some .int) ∈ lw_tbl := z_inT4 (List.mem_of_getElem? (i := 149) rfl)
theorem z_cw107 : Cond.code ⟨"StuntSet", "shot", "(IIIIII)I"⟩ prog_1_method_28_code 7 (some .int) ∈ lw_tbl := z_inT4 (List.mem_of_getElem? (i := 153) rfl)
theorem z_cw108 : Cond.code ⟨"StuntSet", "best", "(I)I"⟩ prog_1_method_29_code 2 (some .int) ∈ lw_tbl := z_inT4 (List.mem_of_getElem? (i := 178) rfl)
theorem z_cw109 : Cond.code ⟨"StuntSet", "put", "(I)I"⟩ prog_1_method_30_code 2 (some .int) ∈ lw_tbl := z_inT4 (List.mem_of_getElem? (i := 186) rfl)
theorem z_cw110 : Cond.code ⟨"StuntSet", "judge", "()I"⟩ prog_1_method_31_code 2 (some .int) ∈ lw_tbl := z_inT4 (List.mem_of_getElem? (i := 194) rfl)
theorem z_cw111 : Cond.code ⟨"StuntSet", "marks", "(II)I"⟩ prog_1_method_32_code 3 (some .int) ∈ lw_tbl := z_inT4 (List.mem_of_getElem? (i := 202) rfl)
theorem z_cw112 : Cond.code ⟨"StuntSet", "matched", "(I)I"⟩ prog_1_method_33_code 2 (some .int) ∈ lw_tbl := z_inT4 (List.mem_of_getElem? (i := 212) rfl)
theorem z_cw113 : Cond.code ⟨"StuntSet", "days", "(I)I"⟩ prog_1_method_34_code 2 (some .int) ∈ lw_tbl := z_inT4 (List.mem_of_getElem? (i := 231) rfl)
theorem z_cw114 : Cond.code ⟨"StuntSet", "run", "(III)I"⟩ prog_1_method_35_code 4 (some .int) ∈ lw_tbl := z_inT4 (List.mem_of_getElem? (i := 235) rfl)
theorem z_cw115 : Cond.code ⟨"StuntSet", "takeBack", "(I)I"⟩ prog_1_method_36_code 2 (some .int) ∈ lw_tbl := z_inT5 (List.mem_of_getElem? (i := 6) rfl)
theorem z_cw116 : Cond.code ⟨"StuntSet", "grip", "(II)I"⟩ prog_1_method_37_code 3 (some .int) ∈ lw_tbl := z_inT5 (List.mem_of_getElem? (i := 10) rfl)
theorem z_cw117 : Cond.code ⟨"StuntSet", "stop", "(III)I"⟩ prog_1_method_38_code 4 (some .int) ∈ lw_tbl := z_inT5 (List.mem_of_getElem? (i := 23) rfl)
theorem z_cw118 : Cond.code ⟨"StuntSet", "plan", "(III)I"⟩ prog_1_method_39_code 4 (some .int) ∈ lw_tbl := z_inT5 (List.mem_of_getElem? (i := 33) rfl)
theorem z_cw119 : Cond.code ⟨"StuntSet", "good", "(II)I"⟩ prog_1_method_40_code 3 (some .int) ∈ lw_tbl := z_inT5 (List.mem_of_getElem? (i := 41) rfl)
theorem z_cw120 : Cond.code ⟨"StuntSet", "overtaken", "()I"⟩ prog_1_method_41_code 1 (some .int) ∈ lw_tbl := z_inT5 (List.mem_of_getElem? (i := 50) rfl)
theorem z_cw121 : Cond.code ⟨"StuntSet", "count", "(I)I"⟩ prog_1_method_42_code 2 (some .int) ∈ lw_tbl := z_inT5 (List.mem_of_getElem? (i := 59) rfl)
theorem z_cw122 : Cond.code ⟨"StuntSet", "refuse", "(I)I"⟩ prog_1_method_43_code 2 (some .int) ∈ lw_tbl := z_inT2 (List.mem_of_getElem? (i := 96) rfl)
theorem z_cw123 : Cond.code ⟨"StuntSet", "isCell", "(I)Z"⟩ prog_1_method_44_code 1 (some .boolean) ∈ lw_tbl := z_inT2 (List.mem_of_getElem? (i := 92) rfl)
theorem z_cw124 : Cond.code ⟨"StuntSet", "isDirection", "(I)Z"⟩ prog_1_method_45_code 1 (some .boolean) ∈ lw_tbl := z_inT2 (List.mem_of_getElem? (i := 207) rfl)
theorem z_cw125 : Cond.code ⟨"StuntSet", "isGround", "(I)Z"⟩ prog_1_method_46_code 1 (some .boolean) ∈ lw_tbl := z_inT4 (List.mem_of_getElem? (i := 238) rfl)
theorem z_cw126 : Cond.code ⟨"StuntSet", "far", "(II)I"⟩ prog_1_method_47_code 4 (some .int) ∈ lw_tbl := z_inT3 (List.mem_of_getElem? (i := 10) rfl)
theorem z_cw127 : Cond.code ⟨"StuntSet", "cutUp", "(II)I"⟩ prog_1_method_48_code 3 (some .int) ∈ lw_tbl := z_inT4 (List.mem_of_getElem? (i := 145) rfl)
theorem z_cw128 : Cond.code ⟨"StuntSet", "hasBit", "([II)Z"⟩ prog_1_method_49_code 2 (some .boolean) ∈ lw_tbl := z_inT2 (List.mem_of_getElem? (i := 102) rfl)
theorem z_cw129 : Cond.code ⟨"StuntSet", "setBit", "([IIZ)I"⟩ prog_1_method_50_code 3 (some .int) ∈ lw_tbl := z_inT2 (List.mem_of_getElem? (i := 99) rfl)
theorem z_cw130 : Cond.code ⟨"StuntSetModel", "<init>", "()V"⟩ prog_13_method_1_code 2 (none) ∈ lw_tbl := z_inT5 (List.mem_of_getElem? (i := 78) rfl)
theorem z_cw131 : Cond.code ⟨"StuntSetModel", "no", "(I)I"⟩ prog_13_method_2_code 2 (some .int) ∈ lw_tbl := z_inT6 (List.mem_of_getElem? (i := 12) rfl)
theorem z_cw132 : Cond.code ⟨"StuntSetModel", "isCell", "(I)Z"⟩ prog_13_method_3_code 2 (some .boolean) ∈ lw_tbl := z_inT6 (List.mem_of_getElem? (i := 8) rfl)
theorem z_cw133 : Cond.code ⟨"StuntSetModel", "isMover", "(I)Z"⟩ prog_13_method_4_code 2 (some .boolean) ∈ lw_tbl := z_inT6 (List.mem_of_getElem? (i := 28) rfl)
theorem z_cw134 : Cond.code ⟨"StuntSetModel", "stepX", "(I)I"⟩ prog_13_method_5_code 2 (some .int) ∈ lw_tbl := z_inT6 (List.mem_of_getElem? (i := 36) rfl)
theorem z_cw135 : Cond.code ⟨"StuntSetModel", "stepY", "(I)I"⟩ prog_13_method_6_code 2 (some .int) ∈ lw_tbl := z_inT6 (List.mem_of_getElem? (i := 40) rfl)
theorem z_cw136 : Cond.code ⟨"StuntSetModel", "sizeOf", "(I)I"⟩ prog_13_method_7_code 2 (some .int) ∈ lw_tbl := z_inT6 (List.mem_of_getElem? (i := 72) rfl)
theorem z_cw137 : Cond.code ⟨"StuntSetModel", "far", "(II)I"⟩ prog_13_method_8_code 5 (some .int) ∈ lw_tbl := z_inT6 (List.mem_of_getElem? (i := 68) rfl)
theorem z_cw138 : Cond.code ⟨"StuntSetModel", "along", "(III)I"⟩ prog_13_method_9_code 6 (some .int) ∈ lw_tbl := z_inT6 (List.mem_of_getElem? (i := 32) rfl)
theorem z_cw139 : Cond.code ⟨"StuntSetModel", "cover", "(IZ)I"⟩ prog_13_method_10_code 3 (some .int) ∈ lw_tbl := z_inT6 (List.mem_of_getElem? (i := 4) rfl)
theorem z_cw140 : Cond.code ⟨"StuntSetModel", "safe", "(IZ)I"⟩ prog_13_method_11_code 3 (some .int) ∈ lw_tbl := z_inT6 (List.mem_of_getElem? (i := 16) rfl)
theorem z_cw141 : Cond.code ⟨"StuntSetModel", "mover", "(IIIII)I"⟩ prog_13_method_12_code 6 (some .int) ∈ lw_tbl := z_inT6 (List.mem_of_getElem? (i := 20) rfl)
theorem z_cw142 : Cond.code ⟨"StuntSetModel", "leg", "(IIIII)I"⟩ prog_13_method_13_code 8 (some .int) ∈ lw_tbl := z_inT6 (List.mem_of_getElem? (i := 24) rfl)
theorem z_cw143 : Cond.code ⟨"StuntSetModel", "cue", "(III)I"⟩ prog_13_method_14_code 5 (some .int) ∈ lw_tbl := z_inT6 (List.mem_of_getElem? (i := 44) rfl)
theorem z_cw144 : Cond.code ⟨"StuntSetModel", "placeOf", "(III)I"⟩ prog_13_method_15_code 9 (some .int) ∈ lw_tbl := z_inT6 (List.mem_of_getElem? (i := 52) rfl)
theorem z_cw145 : Cond.code ⟨"StuntSetModel", "place", "(III)I"⟩ prog_13_method_16_code 4 (some .int) ∈ lw_tbl := z_inT6 (List.mem_of_getElem? (i := 48) rfl)
theorem z_cw146 : Cond.code ⟨"StuntSetModel", "touch", "(III)Z"⟩ prog_13_method_17_code 7 (some .boolean) ∈ lw_tbl := z_inT6 (List.mem_of_getElem? (i := 64) rfl)
theorem z_cw147 : Cond.code ⟨"StuntSetModel", "hitOf", "(II)I"⟩ prog_13_method_18_code 4 (some .int) ∈ lw_tbl := z_inT6 (List.mem_of_getElem? (i := 60) rfl)
theorem z_cw148 : Cond.code ⟨"StuntSetModel", "hit", "(II)I"⟩ prog_13_method_19_code 3 (some .int) ∈ lw_tbl := z_inT6 (List.mem_of_getElem? (i := 56) rfl)
theorem z_cw149 : Cond.code ⟨"StuntSetModel", "findHit", "()V"⟩ prog_13_method_20_code 4 (none) ∈ lw_tbl := z_inT6 (List.mem_of_getElem? (i := 80) rfl)
theorem z_cw150 : Cond.code ⟨"StuntSetModel", "firstHit", "(I)I"⟩ prog_13_method_21_code 2 (some .int) ∈ lw_tbl := z_inT6 (List.mem_of_getElem? (i := 76) rfl)
theorem z_cw151 : Cond.code ⟨"StuntSetModel", "stride", "(I)I"⟩ prog_13_method_22_code 3 (some .int) ∈ lw_tbl := z_inT6 (List.mem_of_getElem? (i := 84) rfl)
theorem z_cw152 : Cond.code ⟨"StuntSetModel", "cars", "(II)V"⟩ prog_13_method_23_code 6 (none) ∈ lw_tbl := z_inT6 (List.mem_of_getElem? (i := 92) rfl)
theorem z_cw153 : Cond.code ⟨"StuntSetModel", "isDanger", "(I)Z"⟩ prog_13_method_24_code 3 (some .boolean) ∈ lw_tbl := z_inT6 (List.mem_of_getElem? (i := 96) rfl)
theorem z_cw154 : Cond.code ⟨"StuntSetModel", "danger", "(III)I"⟩ prog_13_method_25_code 4 (some .int) ∈ lw_tbl := z_inT6 (List.mem_of_getElem? (i := 88) rfl)
theorem z_cw155 : Cond.code ⟨"StuntSetModel", "weed", "(II)Z"⟩ prog_13_method_26_code 5 (some .boolean) ∈ lw_tbl := z_inT6 (List.mem_of_getElem? (i := 112) rfl)
theorem z_cw156 : Cond.code ⟨"StuntSetModel", "spread", "()V"⟩ prog_13_method_27_code 4 (none) ∈ lw_tbl := z_inT6 (List.mem_of_getElem? (i := 116) rfl)
theorem z_cw157 : Cond.code ⟨"StuntSetModel", "savedAt", "(II)I"⟩ prog_13_method_28_code 5 (some .int) ∈ lw_tbl := z_inT6 (List.mem_of_getElem? (i := 108) rfl)
theorem z_cw158 : Cond.code ⟨"StuntSetModel", "unsaved", "(I)I"⟩ prog_13_method_29_code 4 (some .int) ∈ lw_tbl := z_inT6 (List.mem_of_getElem? (i := 104) rfl)
theorem z_cw159 : Cond.code ⟨"StuntSetModel", "abort", "(I)I"⟩ prog_13_method_30_code 2 (some .int) ∈ lw_tbl := z_inT6 (List.mem_of_getElem? (i := 100) rfl)
theorem z_cw160 : Cond.code ⟨"StuntSetModel", "saved", "(II)I"⟩ prog_13_method_31_code 3 (some .int) ∈ lw_tbl := z_inT6 (List.mem_of_getElem? (i := 120) rfl)
theorem z_cw161 : Cond.code ⟨"StuntSetModel", "camera", "(IIIIII)I"⟩ prog_13_method_32_code 8 (some .int) ∈ lw_tbl := z_inT6 (List.mem_of_getElem? (i := 124) rfl)
theorem z_cw162 : Cond.code ⟨"StuntSetModel", "floorOf", "(II)I"⟩ prog_13_method_33_code 3 (some .int) ∈ lw_tbl := z_inT6 (List.mem_of_getElem? (i := 140) rfl)
theorem z_cw163 : Cond.code ⟨"StuntSetModel", "isHidden", "(IIII)Z"⟩ prog_13_method_34_code 8 (some .boolean) ∈ lw_tbl := z_inT6 (List.mem_of_getElem? (i := 136) rfl)
theorem z_cw164 : Cond.code ⟨"StuntSetModel", "seesCell", "(II)Z"⟩ prog_13_method_35_code 11 (some .boolean) ∈ lw_tbl := z_inT6 (List.mem_of_getElem? (i := 132) rfl)
theorem z_cw165 : Cond.code ⟨"StuntSetModel", "sees", "(II)I"⟩ prog_13_method_36_code 3 (some .int) ∈ lw_tbl := z_inT6 (List.mem_of_getElem? (i := 128) rfl)
theorem z_cw166 : Cond.code ⟨"StuntSetModel", "quarrel", "(II)Z"⟩ prog_13_method_37_code 3 (some .boolean) ∈ lw_tbl := z_inT6 (List.mem_of_getElem? (i := 152) rfl)
theorem z_cw167 : Cond.code ⟨"StuntSetModel", "quarrelOf", "(I)I"⟩ prog_13_method_38_code 5 (some .int) ∈ lw_tbl := z_inT6 (List.mem_of_getElem? (i := 148) rfl)
theorem z_cw168 : Cond.code ⟨"StuntSetModel", "quarrels", "(I)I"⟩ prog_13_method_39_code 2 (some .int) ∈ lw_tbl := z_inT6 (List.mem_of_getElem? (i := 144) rfl)
theorem z_cw169 : Cond.code ⟨"StuntSetModel", "picture", "(II)I"⟩ prog_13_method_40_code 5 (some .int) ∈ lw_tbl := z_inT6 (List.mem_of_getElem? (i := 156) rfl)
theorem z_cw170 : Cond.code ⟨"StuntSetModel", "tell", "(II)I"⟩ prog_13_method_41_code 4 (some .int) ∈ lw_tbl := z_inT6 (List.mem_of_getElem? (i := 160) rfl)
theorem z_cw171 : Cond.code ⟨"StuntSetModel", "feed", "(IJ)I"⟩ prog_13_method_42_code 5 (some .int) ∈ lw_tbl := z_inT6 (List.mem_of_getElem? (i := 164) rfl)
theorem z_cw172 : Cond.code ⟨"StuntSetModel", "isDigit", "(I)Z"⟩ prog_13_method_43_code 2 (some .boolean) ∈ lw_tbl := z_inT6 (List.mem_of_getElem? (i := 180) rfl)
theorem z_cw173 : Cond.code ⟨"StuntSetModel", "isLetter", "(I)Z"⟩ prog_13_method_44_code 2 (some .boolean) ∈ lw_tbl := z_inT6 (List.mem_of_getElem? (i := 176) rfl)
theorem z_cw174 : Cond.code ⟨"StuntSetModel", "fault", "()I"⟩ prog_13_method_45_code 7 (some .int) ∈ lw_tbl := z_inT6 (List.mem_of_getElem? (i := 172) rfl)
theorem z_cw175 : Cond.code ⟨"StuntSetModel", "text", "(I)I"⟩ prog_13_method_46_code 5 (some .int) ∈ lw_tbl := z_inT6 (List.mem_of_getElem? (i := 168) rfl)
theorem z_cw176 : Cond.code ⟨"StuntSetModel", "unit", "(I)I"⟩ prog_13_method_47_code 4 (some .int) ∈ lw_tbl := z_inT6 (List.mem_of_getElem? (i := 204) rfl)
theorem z_cw177 : Cond.code ⟨"StuntSetModel", "compared", "(I)Z"⟩ prog_13_method_48_code 5 (some .boolean) ∈ lw_tbl := z_inT6 (List.mem_of_getElem? (i := 200) rfl)
theorem z_cw178 : Cond.code ⟨"StuntSetModel", "put1", "(IZ)V"⟩ prog_13_method_49_code 3 (none) ∈ lw_tbl := z_inT6 (List.mem_of_getElem? (i := 196) rfl)
theorem z_cw179 : Cond.code ⟨"StuntSetModel", "begin", "(I)V"⟩ prog_13_method_50_code 2 (none) ∈ lw_tbl := z_inT6 (List.mem_of_getElem? (i := 192) rfl)
theorem z_cw180 : Cond.code ⟨"StuntSetModel", "isLet", "(I)Z"⟩ prog_13_method_51_code 4 (some .boolean) ∈ lw_tbl := z_inT6 (List.mem_of_getElem? (i := 188) rfl)
theorem z_cw181 : Cond.code ⟨"StuntSetModel", "lets", "(I)I"⟩ prog_13_method_52_code 2 (some .int) ∈ lw_tbl := z_inT6 (List.mem_of_getElem? (i := 184) rfl)
theorem z_cw182 : Cond.code ⟨"StuntSetModel", "take", "()I"⟩ prog_13_method_53_code 1 (some .int) ∈ lw_tbl := z_inT6 (List.mem_of_getElem? (i := 208) rfl)
theorem z_cw183 : Cond.code ⟨"StuntSetModel", "ramp", "(IIII)I"⟩ prog_13_method_54_code 6 (some .int) ∈ lw_tbl := z_inT6 (List.mem_of_getElem? (i := 212) rfl)
theorem z_cw184 : Cond.code ⟨"StuntSetModel", "flown", "(II)I"⟩ prog_13_method_55_code 3 (some .int) ∈ lw_tbl := z_inT6 (List.mem_of_getElem? (i := 220) rfl)
theorem z_cw185 : Cond.code ⟨"StuntSetModel", "lands", "(II)I"⟩ prog_13_method_56_code 3 (some .int) ∈ lw_tbl := z_inT6 (List.mem_of_getElem? (i := 216) rfl)
theorem z_cw186 : Cond.code ⟨"StuntSetModel", "speeds", "(II)I"⟩ prog_13_method_57_code 9 (some .int) ∈ lw_tbl := z_inT6 (List.mem_of_getElem? (i := 224) rfl)
theorem z_cw187 : Cond.code ⟨"StuntSetModel", "bags", "(II)I"⟩ prog_13_method_58_code 3 (some .int) ∈ lw_tbl := z_inT6 (List.mem_of_getElem? (i := 228) rfl)
theorem z_cw188 : Cond.code ⟨"StuntSetModel", "fire", "(IIII)I"⟩ prog_13_method_59_code 5 (some .int) ∈ lw_tbl := z_inT6 (List.mem_of_getElem? (i := 232) rfl)
theorem z_cw189 : Cond.code ⟨"StuntSetModel", "shot", "(IIIIII)I"⟩ prog_13_method_60_code 8 (some .int) ∈ lw_tbl := z_inT6 (List.mem_of_getElem? (i := 236) rfl)
theorem z_cw190 : Cond.code ⟨"StuntSetModel", "endOf", "(II)I"⟩ prog_13_method_61_code 5 (some .int) ∈ lw_tbl := z_inT7 (List.mem_of_getElem? (i := 8) rfl)
theorem z_cw191 : Cond.code ⟨"StuntSetModel", "weighOrder", "()V"⟩ prog_13_method_62_code 6 (none) ∈ lw_tbl := z_inT7 (List.mem_of_getElem? (i := 4) rfl)
theorem z_cw192 : Cond.code ⟨"StuntSetModel", "next", "()Z"⟩ prog_13_method_63_code 5 (some .boolean) ∈ lw_tbl := z_inT7 (List.mem_of_getElem? (i := 12) rfl)
theorem z_cw193 : Cond.code ⟨"StuntSetModel", "swap", "(II)V"⟩ prog_13_method_64_code 4 (none) ∈ lw_tbl := z_inT7 (List.mem_of_getElem? (i := 16) rfl)
theorem z_cw194 : Cond.code ⟨"StuntSetModel", "best", "(I)I"⟩ prog_13_method_65_code 4 (some .int) ∈ lw_tbl := z_inT7 (List.mem_of_getElem? (i := 0) rfl)
theorem z_cw195 : Cond.code ⟨"StuntSetModel", "put", "(I)I"⟩ prog_13_method_66_code 2 (some .int) ∈ lw_tbl := z_inT7 (List.mem_of_getElem? (i := 20) rfl)
theorem z_cw196 : Cond.code ⟨"StuntSetModel", "judge", "()I"⟩ prog_13_method_67_code 6 (some .int) ∈ lw_tbl := z_inT7 (List.mem_of_getElem? (i := 24) rfl)
theorem z_cw197 : Cond.code ⟨"StuntSetModel", "marks", "(II)I"⟩ prog_13_method_68_code 4 (some .int) ∈ lw_tbl := z_inT7 (List.mem_of_getElem? (i := 28) rfl)
theorem z_cw198 : Cond.code ⟨"StuntSetModel", "unlike", "(II)I"⟩ prog_13_method_69_code 7 (some .int) ∈ lw_tbl := z_inT7 (List.mem_of_getElem? (i := 48) rfl)
theorem z_cw199 : Cond.code ⟨"StuntSetModel", "fits", "(II)Z"⟩ prog_13_method_70_code 3 (some .boolean) ∈ lw_tbl := z_inT7 (List.mem_of_getElem? (i := 44) rfl)
theorem z_cw200 : Cond.code ⟨"StuntSetModel", "match", "()V"⟩ prog_13_method_71_code 10 (none) ∈ lw_tbl := z_inT7 (List.mem_of_getElem? (i := 40) rfl)
theorem z_cw201 : Cond.code ⟨"StuntSetModel", "matched", "(I)I"⟩ prog_13_method_72_code 3 (some .int) ∈ lw_tbl := z_inT7 (List.mem_of_getElem? (i := 36) rfl)
theorem z_cw202 : Cond.code ⟨"StuntSetModel", "days", "(I)I"⟩ prog_13_method_73_code 2 (some .int) ∈ lw_tbl := z_inT7 (List.mem_of_getElem? (i := 52) rfl)
theorem z_cw203 : Cond.code ⟨"StuntSetModel", "run", "(III)I"⟩ prog_13_method_74_code 5 (some .int) ∈ lw_tbl := z_inT7 (List.mem_of_getElem? (i := 56) rfl)
theorem z_cw204 : Cond.code ⟨"StuntSetModel", "takeBack", "(I)I"⟩ prog_13_method_75_code 2 (some .int) ∈ lw_tbl := z_inT7 (List.mem_of_getElem? (i := 60) rfl)
theorem z_cw205 : Cond.code ⟨"StuntSetModel", "gripOf", "(II)I"⟩ prog_13_method_76_code 6 (some .int) ∈ lw_tbl := z_inT7 (List.mem_of_getElem? (i := 68) rfl)
theorem z_cw206 : Cond.code ⟨"StuntSetModel", "stopOf", "(III)I"⟩ prog_13_method_77_code 5 (some .int) ∈ lw_tbl := z_inT7 (List.mem_of_getElem? (i := 76) rfl)
theorem z_cw207 : Cond.code ⟨"StuntSetModel", "grip", "(II)I"⟩ prog_13_method_78_code 3 (some .int) ∈ lw_tbl := z_inT7 (List.mem_of_getElem? (i := 64) rfl)
theorem z_cw208 : Cond.code ⟨"StuntSetModel", "stop", "(III)I"⟩ prog_13_method_79_code 4 (some .int) ∈ lw_tbl := z_inT7 (List.mem_of_getElem? (i := 72) rfl)
theorem z_cw209 : Cond.code ⟨"StuntSetModel", "plan", "(III)I"⟩ prog_13_method_80_code 5 (some .int) ∈ lw_tbl := z_inT7 (List.mem_of_getElem? (i := 80) rfl)
theorem z_cw210 : Cond.code ⟨"StuntSetModel", "isGood", "(II)Z"⟩ prog_13_method_81_code 3 (some .boolean) ∈ lw_tbl := z_inT7 (List.mem_of_getElem? (i := 88) rfl)
theorem z_cw211 : Cond.code ⟨"StuntSetModel", "good", "(II)I"⟩ prog_13_method_82_code 3 (some .int) ∈ lw_tbl := z_inT7 (List.mem_of_getElem? (i := 84) rfl)
theorem z_cw212 : Cond.code ⟨"StuntSetModel", "overtaken", "()I"⟩ prog_13_method_83_code 2 (some .int) ∈ lw_tbl := z_inT7 (List.mem_of_getElem? (i := 92) rfl)
theorem z_cw213 : Cond.code ⟨"StuntSetModel", "runsThatCount", "()I"⟩ prog_13_method_84_code 3 (some .int) ∈ lw_tbl := z_inT7 (List.mem_of_getElem? (i := 100) rfl)
theorem z_cw214 : Cond.code ⟨"StuntSetModel", "safeCells", "()I"⟩ prog_13_method_85_code 3 (some .int) ∈ lw_tbl := z_inT7 (List.mem_of_getElem? (i := 104) rfl)
theorem z_cw215 : Cond.code ⟨"StuntSetModel", "count", "(I)I"⟩ prog_13_method_86_code 2 (some .int) ∈ lw_tbl := z_inT7 (List.mem_of_getElem? (i := 96) rfl)
theorem z_cw216 : Cond.code ⟨"java/lang/String", "length", "()I"⟩ prog_17_method_54_code 1 (some .int) ∈ lw_tbl := z_inT4 (List.mem_of_getElem? (i := 4) rfl)
theorem z_cw217 : Cond.code ⟨"java/lang/String", "charAt", "(I)C"⟩ prog_17_method_56_code 2 (some .char) ∈ lw_tbl := z_inT4 (List.mem_of_getElem? (i := 88) rfl)
theorem z_cw218 : Cond.code ⟨"java/lang/String", "indexOf", "(I)I"⟩ prog_17_method_79_code 2 (some .int) ∈ lw_tbl := z_inT3 (List.mem_of_getElem? (i := 230) rfl)
theorem z_cw219 : Cond.code ⟨"java/lang/String", "indexOf", "(II)I"⟩ prog_17_method_80_code 3 (some .int) ∈ lw_tbl := z_inT3 (List.mem_of_getElem? (i := 234) rfl)
theorem z_cw220 : Cond.code ⟨"java/lang/String", "coder", "()B"⟩ prog_17_method_152_code 1 (some .byte) ∈ lw_tbl := z_inT4 (List.mem_of_getElem? (i := 8) rfl)
theorem z_cw221 : Cond.code ⟨"java/lang/String", "isLatin1", "()Z"⟩ prog_17_method_154_code 1 (some .boolean) ∈ lw_tbl := z_inT3 (List.mem_of_getElem? (i := 238) rfl)
theorem z_cw222 : Cond.code ⟨"java/lang/String", "checkIndex", "(II)V"⟩ prog_17_method_155_code 2 (none) ∈ lw_tbl := z_inT4 (List.mem_of_getElem? (i := 94) rfl)
theorem z_cw223 : Cond.code ⟨"java/lang/StringLatin1", "charAt", "([BI)C"⟩ prog_18_method_2_code 2 (some .char) ∈ lw_tbl := z_inT4 (List.mem_of_getElem? (i := 91) rfl)
theorem z_cw224 : Cond.code ⟨"java/lang/StringLatin1", "canEncode", "(I)Z"⟩ prog_18_method_4_code 1 (some .boolean) ∈ lw_tbl := z_inT4 (List.mem_of_getElem? (i := 14) rfl)
theorem z_cw225 : Cond.code ⟨"java/lang/StringLatin1", "indexOf", "([BIII)I"⟩ prog_18_method_22_code 4 (some .int) ∈ lw_tbl := z_inT4 (List.mem_of_getElem? (i := 11) rfl)
theorem z_cw226 : Cond.code ⟨"java/lang/StringLatin1", "indexOfChar", "([BIII)I"⟩ prog_18_method_23_code 6 (some .int) ∈ lw_tbl := z_inT4 (List.mem_of_getElem? (i := 19) rfl)
theorem z_cw227 : Cond.code ⟨"java/lang/Math", "floorDiv", "(II)I"⟩ prog_16_method_47_code 3 (some .int) ∈ lw_tbl := z_inT3 (List.mem_of_getElem? (i := 144) rfl)
theorem z_cw228 : Cond.code ⟨"java/lang/Math", "abs", "(I)I"⟩ prog_16_method_59_code 1 (some .int) ∈ lw_tbl := z_inT3 (List.mem_of_getElem? (i := 13) rfl)
theorem z_cw229 : Cond.code ⟨"java/lang/Math", "max", "(II)I"⟩ prog_16_method_65_code 2 (some .int) ∈ lw_tbl := z_inT2 (List.mem_of_getElem? (i := 130) rfl)
theorem z_cw230 : Cond.code ⟨"java/lang/Math", "min", "(II)I"⟩ prog_16_method_69_code 2 (some .int) ∈ lw_tbl := z_inT2 (List.mem_of_getElem? (i := 127) rfl)
theorem z_cw231 : Cond.code ⟨"java/lang/Integer", "bitCount", "(I)I"⟩ prog_15_method_49_code 1 (some .int) ∈ lw_tbl := z_inT5 (List.mem_of_getElem? (i := 70) rfl)
theorem z_cw232 : Cond.code ⟨"jdk/internal/util/Preconditions", "checkIndex", "(IILjava/util/function/BiFunction;)I"⟩ prog_20_method_11_code 3 (some .int) ∈ lw_tbl := z_inT4 (List.mem_of_getElem? (i := 97) rfl)
def z_okCd : Nat → List MethodName → List ByteArray → List Nat → List (Option FieldType) → Prop
  | k + 1, n :: ns, b :: bs, m :: ms, r :: rs => Cond.code n b m r ∈ lw_tbl ∧ z_okCd k ns bs ms rs
  | 0, _, _, _, _ => True
  | _, _, _, _, _ => False
theorem z_okCd_of : ∀ (k : Nat) (ns : List MethodName) (bs : List ByteArray) (ms : List Nat) (rs : List (Option FieldType)), z_okCd k ns bs ms rs → ∀ y, y < k → Cond.code (ns.getD y ⟨"", "", ""⟩) (bs.getD y ⟨#[]⟩) (ms.getD y 0) (rs.getD y none) ∈ lw_tbl
  | 0, _, _, _, _, _, y, hy => absurd hy (Nat.not_lt_zero y)
  | k + 1, [], _, _, _, h, _, _ => h.elim
  | k + 1, _ :: _, [], _, _, h, _, _ => h.elim
  | k + 1, _ :: _, _ :: _, [], _, h, _, _ => h.elim
  | k + 1, _ :: _, _ :: _, _ :: _, [], h, _, _ => h.elim
  | k + 1, n :: ns, b :: bs, m :: ms, r :: rs, h, 0, _ => h.1
  | k + 1, n :: ns, b :: bs, m :: ms, r :: rs, h, y + 1, hy => z_okCd_of k ns bs ms rs h.2 y (by omega)
theorem z_cwA : z_okCd 233 z_nms z_bcs z_mls z_rts := ⟨z_cw0, ⟨z_cw1, ⟨z_cw2, ⟨z_cw3, ⟨z_cw4, ⟨z_cw5, ⟨z_cw6, ⟨z_cw7, ⟨z_cw8, ⟨z_cw9, ⟨z_cw10, ⟨z_cw11, ⟨z_cw12, ⟨z_cw13, ⟨z_cw14, ⟨z_cw15, ⟨z_cw16, ⟨z_cw17, ⟨z_cw18, ⟨z_cw19, ⟨z_cw20, ⟨z_cw21, ⟨z_cw22, ⟨z_cw23, ⟨z_cw24, ⟨z_cw25, ⟨z_cw26, ⟨z_cw27, ⟨z_cw28, ⟨z_cw29, ⟨z_cw30, ⟨z_cw31, ⟨z_cw32, ⟨z_cw33, ⟨z_cw34, ⟨z_cw35, ⟨z_cw36, ⟨z_cw37, ⟨z_cw38, ⟨z_cw39, ⟨z_cw40, ⟨z_cw41, ⟨z_cw42, ⟨z_cw43, ⟨z_cw44, ⟨z_cw45, ⟨z_cw46, ⟨z_cw47, ⟨z_cw48, ⟨z_cw49, ⟨z_cw50, ⟨z_cw51, ⟨z_cw52, ⟨z_cw53, ⟨z_cw54, ⟨z_cw55, ⟨z_cw56, ⟨z_cw57, ⟨z_cw58, ⟨z_cw59, ⟨z_cw60, ⟨z_cw61, ⟨z_cw62, ⟨z_cw63, ⟨z_cw64, ⟨z_cw65, ⟨z_cw66, ⟨z_cw67, ⟨z_cw68, ⟨z_cw69, ⟨z_cw70, ⟨z_cw71, ⟨z_cw72, ⟨z_cw73, ⟨z_cw74, ⟨z_cw75, ⟨z_cw76, ⟨z_cw77, ⟨z_cw78, ⟨z_cw79, ⟨z_cw80, ⟨z_cw81, ⟨z_cw82, ⟨z_cw83, ⟨z_cw84, ⟨z_cw85, ⟨z_cw86, ⟨z_cw87, ⟨z_cw88, ⟨z_cw89, ⟨z_cw90, ⟨z_cw91, ⟨z_cw92, ⟨z_cw93, ⟨z_cw94, ⟨z_cw95, ⟨z_cw96, ⟨z_cw97, ⟨z_cw98, ⟨z_cw99, ⟨z_cw100, ⟨z_cw101, ⟨z_cw102, ⟨z_cw103, ⟨z_cw104, ⟨z_cw105, ⟨z_cw106, ⟨z_cw107, ⟨z_cw108, ⟨z_cw109, ⟨z_cw110, ⟨z_cw111, ⟨z_cw112, ⟨z_cw113, ⟨z_cw114, ⟨z_cw115, ⟨z_cw116, ⟨z_cw117, ⟨z_cw118, ⟨z_cw119, ⟨z_cw120, ⟨z_cw121, ⟨z_cw122, ⟨z_cw123, ⟨z_cw124, ⟨z_cw125, ⟨z_cw126, ⟨z_cw127, ⟨z_cw128, ⟨z_cw129, ⟨z_cw130, ⟨z_cw131, ⟨z_cw132, ⟨z_cw133, ⟨z_cw134, ⟨z_cw135, ⟨z_cw136, ⟨z_cw137, ⟨z_cw138, ⟨z_cw139, ⟨z_cw140, ⟨z_cw141, ⟨z_cw142, ⟨z_cw143, ⟨z_cw144, ⟨z_cw145, ⟨z_cw146, ⟨z_cw147, ⟨z_cw148, ⟨z_cw149, ⟨z_cw150, ⟨z_cw151, ⟨z_cw152, ⟨z_cw153, ⟨z_cw154, ⟨z_cw155, ⟨z_cw156, ⟨z_cw157, ⟨z_cw158, ⟨z_cw159, ⟨z_cw160, ⟨z_cw161, ⟨z_cw162, ⟨z_cw163, ⟨z_cw164, ⟨z_cw165, ⟨z_cw166, ⟨z_cw167, ⟨z_cw168, ⟨z_cw169, ⟨z_cw170, ⟨z_cw171, ⟨z_cw172, ⟨z_cw173, ⟨z_cw174, ⟨z_cw175, ⟨z_cw176, ⟨z_cw177, ⟨z_cw178, ⟨z_cw179, ⟨z_cw180, ⟨z_cw181, ⟨z_cw182, ⟨z_cw183, ⟨z_cw184, ⟨z_cw185, ⟨z_cw186, ⟨z_cw187, ⟨z_cw188, ⟨z_cw189, ⟨z_cw190, ⟨z_cw191, ⟨z_cw192, ⟨z_cw193, ⟨z_cw194, ⟨z_cw195, ⟨z_cw196, ⟨z_cw197, ⟨z_cw198, ⟨z_cw199, ⟨z_cw200, ⟨z_cw201, ⟨z_cw202, ⟨z_cw203, ⟨z_cw204, ⟨z_cw205, ⟨z_cw206, ⟨z_cw207, ⟨z_cw208, ⟨z_cw209, ⟨z_cw210, ⟨z_cw211, ⟨z_cw212, ⟨z_cw213, ⟨z_cw214, ⟨z_cw215, ⟨z_cw216, ⟨z_cw217, ⟨z_cw218, ⟨z_cw219, ⟨z_cw220, ⟨z_cw221, ⟨z_cw222, ⟨z_cw223, ⟨z_cw224, ⟨z_cw225, ⟨z_cw226, ⟨z_cw227, ⟨z_cw228, ⟨z_cw229, ⟨z_cw230, ⟨z_cw231, ⟨z_cw232, True.intro⟩⟩⟩⟩⟩⟩⟩⟩⟩⟩⟩⟩⟩⟩⟩⟩⟩⟩⟩⟩⟩⟩⟩⟩⟩⟩⟩⟩⟩⟩⟩⟩⟩⟩⟩⟩⟩⟩⟩⟩⟩⟩⟩⟩⟩⟩⟩⟩⟩⟩⟩⟩⟩⟩⟩⟩⟩⟩⟩⟩⟩⟩⟩⟩⟩⟩⟩⟩⟩⟩⟩⟩⟩⟩⟩⟩⟩⟩⟩⟩⟩⟩⟩⟩⟩⟩⟩⟩⟩⟩⟩⟩⟩⟩⟩⟩⟩⟩⟩⟩⟩⟩⟩⟩⟩⟩⟩⟩⟩⟩⟩⟩⟩⟩⟩⟩⟩⟩⟩⟩⟩⟩⟩⟩⟩⟩⟩⟩⟩⟩⟩⟩⟩⟩⟩⟩⟩⟩⟩⟩⟩⟩⟩⟩⟩⟩⟩⟩⟩⟩⟩⟩⟩⟩⟩⟩⟩⟩⟩⟩⟩⟩⟩⟩⟩⟩⟩⟩⟩⟩⟩⟩⟩⟩⟩⟩⟩⟩⟩⟩⟩⟩⟩⟩⟩⟩⟩⟩⟩⟩⟩⟩⟩⟩⟩⟩⟩⟩⟩⟩⟩⟩⟩⟩⟩⟩⟩⟩⟩⟩⟩⟩⟩⟩⟩⟩⟩⟩⟩⟩⟩⟩⟩⟩⟩⟩⟩⟩⟩⟩⟩⟩⟩
theorem z_okYA : ∀ y, y < 233 → Cond.code (z_nm y) (z_bc y) (z_ml y) (z_rt y) ∈ lw_tbl := z_okCd_of 233 z_nms z_bcs z_mls z_rts z_cwA
def z_yiP : List Nat := [83, 83, 83, 83, 83, 83, 78, 78, 78, 78, 78, 78, 73, 73, 73, 73, 77, 77, 77, 77, 77, 77, 77, 77, 77, 81, 81, 81, 81, 81, 81, 81, 81, 81, 76, 76, 76, 76, 74, 74, 74, 72, 72, 72, 72, 72, 72, 72, 72, 72, 72, 72, 72, 72, 72, 72, 72, 72, 72, 79, 79, 79, 79, 79, 79, 79, 79, 79, 75, 75, 75, 75, 75, 75, 75, 75, 75, 75, 75, 75, 71, 71, 71, 71, 71, 71, 71, 71, 71, 71, 71, 71, 71, 71, 71, 71, 71, 71, 71, 71, 71, 71, 71, 71, 71, 71, 71, 71, 71, 71, 71, 71, 71, 71, 71, 71, 71, 71, 71, 71, 71, 71, 71, 71, 71, 71, 71, 71, 71, 71, 80, 80, 80, 80, 80, 80, 80, 80, 80, 80, 80, 80, 80, 80, 80, 80, 80, 80, 80, 80, 80, 80, 80, 80, 80, 80, 80, 80, 80, 80, 80, 80, 80, 80, 80, 80, 80, 80, 80, 80, 80, 80, 80, 80, 80, 80, 80, 80, 80, 80, 80, 80, 80, 80, 80, 80, 80, 80, 80, 80, 80, 80, 80, 80, 80, 80, 80, 80, 80, 80, 80, 80, 80, 80, 80, 80, 80, 80, 80, 80, 80, 80, 80, 80, 80, 80, 84, 84, 84, 84, 84, 84, 84, 85, 85, 85, 85, 82, 82, 82, 82, 89, 87]
theorem z_yiZ : ∀ x ∈ (List.range 233).zip z_yiP, lw_tbl[x.2]? = some (Cond.initialized (z_nm x.1).cls) := by decide +kernel
def z_ysP : List Nat := [646, 720, 681, 690, 716, 705, 305, 996, 1004, 1009, 1013, 1016, 158, 669, 677, 701, 254, 945, 970, 950, 958, 963, 954, 978, 986, 424, 520, 525, 533, 541, 567, 429, 433, 442, 231, 908, 916, 925, 182, 741, 868, 101, 500, 512, 1095, 573, 504, 551, 556, 580, 593, 601, 605, 611, 616, 620, 624, 628, 632, 327, 1030, 1047, 1091, 1042, 1055, 1065, 1073, 1082, 188, 733, 860, 872, 745, 750, 754, 770, 774, 758, 766, 762, 93, 397, 414, 418, 508, 529, 537, 545, 576, 585, 589, 597, 635, 640, 673, 697, 712, 725, 729, 737, 864, 900, 904, 912, 921, 930, 937, 941, 966, 974, 982, 990, 1000, 1019, 1023, 1034, 1038, 1051, 1061, 1069, 1078, 1087, 405, 401, 516, 1027, 559, 934, 411, 408, 1107, 1281, 1277, 1297, 1305, 1309, 1341, 1337, 1301, 1272, 1284, 1288, 1292, 1312, 1321, 1316, 1333, 1329, 1324, 1349, 1344, 1352, 1361, 1365, 1356, 1381, 1385, 1377, 1373, 1368, 1388, 1392, 1409, 1405, 1401, 1396, 1421, 1417, 1412, 1424, 1428, 1432, 1449, 1445, 1441, 1436, 1473, 1469, 1465, 1461, 1457, 1452, 1476, 1480, 1489, 1484, 1492, 1496, 1500, 1504, 1517, 1513, 1521, 1525, 1508, 1528, 1532, 1536, 1557, 1553, 1549, 1544, 1560, 1564, 1568, 1577, 1585, 1572, 1580, 1588, 1597, 1592, 1600, 1609, 1613, 1604, 792, 876, 778, 782, 796, 786, 883, 880, 803, 800, 808, 693, 562, 439, 436, 1099, 886]
def z_kw (y : Nat) : Cond := if z_kn y = 0 then Cond.static (z_nm y) else Cond.instanceMethod (z_nm y)
theorem z_ysZ : ∀ x ∈ (List.range 233).zip z_ysP, lw_tbl[x.2]? = some (z_kw x.1) := by decide +kernel
def z_yV : List Nat := [1, 2, 3, 4, 5, 7, 8, 9, 10, 13, 14, 15, 17, 18, 19, 20, 21, 22, 23, 24, 26, 27, 28, 29, 30, 31, 32, 35, 36, 37, 39, 40, 42, 43, 44, 45, 46, 47, 48, 49, 50, 51, 52, 53, 54, 55, 56, 57, 58, 60, 61, 62, 63, 64, 65, 66, 67, 69, 70, 71, 72, 73, 74, 75, 76, 77, 78, 79, 81, 82, 83, 84, 85, 86, 87, 88, 89, 90, 91, 92, 93, 94, 95, 96, 97, 98, 99, 100, 101, 102, 103, 104, 105, 106, 107, 108, 109, 110, 111, 112, 113, 114, 115, 116, 117, 118, 119, 120, 121, 122, 131, 132, 133, 134, 135, 136, 137, 138, 139, 140, 141, 142, 143, 144, 145, 146, 147, 148, 149, 150, 151, 152, 153, 154, 155, 156, 157, 158, 159, 160, 161, 162, 163, 164, 165, 166, 167, 168, 169, 170, 171, 172, 173, 174, 175, 176, 177, 178, 179, 180, 181, 182, 183, 184, 185, 186, 187, 188, 189, 190, 191, 192, 193, 194, 195, 196, 197, 198, 199, 200, 201, 202, 203, 204, 205, 206, 207, 208, 209, 210, 211, 212, 213, 214, 215, 216, 217, 218, 219, 220, 221]
def z_yvP : List Nat := [721, 682, 11, 717, 706, 997, 1005, 23, 24, 670, 678, 702, 946, 971, 19, 21, 22, 20, 979, 987, 521, 526, 534, 542, 568, 1, 2, 909, 917, 926, 742, 869, 501, 513, 1096, 4, 505, 552, 3, 581, 594, 602, 606, 5, 6, 7, 8, 9, 10, 1031, 25, 1092, 1043, 1056, 1066, 1074, 1083, 734, 861, 873, 746, 12, 13, 17, 18, 14, 16, 15, 398, 415, 419, 509, 530, 538, 546, 577, 586, 590, 598, 636, 641, 674, 698, 713, 726, 730, 738, 865, 901, 905, 913, 922, 931, 938, 942, 967, 975, 983, 991, 1001, 1020, 1024, 1035, 1039, 1052, 1062, 1070, 1079, 1088, 0, 27, 26, 28, 30, 31, 36, 35, 29, 1273, 1285, 1289, 1293, 1313, 32, 1317, 34, 33, 1325, 37, 1345, 1353, 38, 39, 1357, 42, 43, 41, 40, 1369, 1389, 1393, 46, 45, 44, 1397, 48, 47, 1413, 1425, 1429, 1433, 51, 50, 49, 1437, 56, 55, 54, 53, 52, 1453, 1477, 1481, 57, 1485, 1493, 1497, 1501, 1505, 59, 58, 60, 61, 1509, 1529, 1533, 1537, 64, 63, 62, 1545, 1561, 1565, 1569, 65, 66, 1573, 1581, 1589, 67, 1593, 1601, 68, 69, 1605, 793, 877, 779, 783, 797, 787]
theorem z_yvZ : ∀ x ∈ z_yV.zip z_yvP, lw_tbl[x.2]? = some (Cond.selects (z_nm x.1).cls (z_nm x.1) (z_nm x.1)) := by decide +kernel
theorem z_yV1 : ∀ y, y < 233 → z_kn y = 1 → y ∈ z_yV := by decide +kernel
theorem z_yV2 : ∀ y, y < 233 → z_kn y = 2 → (z_nm y).name = "<init>" := by decide +kernel
theorem z_okYB : ∀ y, y < 233 → Cond.initialized (z_nm y).cls ∈ lw_tbl ∧ (z_kn y = 0 → Cond.static (z_nm y) ∈ lw_tbl) ∧ (z_kn y = 1 → Cond.instanceMethod (z_nm y) ∈ lw_tbl ∧ Cond.selects (z_nm y).cls (z_nm y) (z_nm y) ∈ lw_tbl) ∧ (z_kn y = 2 → Cond.instanceMethod (z_nm y) ∈ lw_tbl ∧ (z_nm y).name = "<init>") := by
  intro y hy
  have h1 := z_zip (g := z_kw) (by decide +kernel) z_ysZ y (List.mem_range.mpr hy)
  refine ⟨z_zip (g := fun y => Cond.initialized (z_nm y).cls) (by decide +kernel) z_yiZ y (List.mem_range.mpr hy), fun h => ?_, fun h => ⟨?_, z_zip (g := fun y => Cond.selects (z_nm y).cls (z_nm y) (z_nm y)) (by decide +kernel) z_yvZ y (z_yV1 y hy h)⟩, fun h => ⟨?_, z_yV2 y hy h⟩⟩
  · unfold z_kw at h1; rw [if_pos h] at h1; exact h1
  · unfold z_kw at h1; rw [if_neg (by omega)] at h1; exact h1
  · unfold z_kw at h1; rw [if_neg (by omega)] at h1; exact h1
theorem z_okYC : ∀ y, y < 233 → plainFor (z_nm y) = true ∧ (z_nm y).cls ≠ "java/lang/invoke/MethodHandle" ∧ (z_nm y).cls ≠ "java/lang/invoke/VarHandle" ∧ (parseMethodDescriptor (z_nm y).desc).map (fun d => d.parameters.length) = some (z_np y) := by decide +kernel
theorem z_okYD : ∀ y, y < 234 → (z_nm y).cls = z_own (z_oi y) ∧ z_rkOk (z_rk y) (z_rt y) = true ∧ (z_kn y = 2 → z_rt y = none) ∧ z_ml y ≤ 20 ∧ z_kn y < 3 := by decide +kernel
def z_mtdP : List Nat := [95, 400, 403, 407, 423, 499, 511, 515, 519, 523, 524, 532, 540, 548, 549, 550, 579, 592, 600, 638, 645, 668, 676, 680, 700, 715, 732, 740, 867, 907, 915, 924, 933, 944, 969, 977, 985, 995, 1003, 1026, 1029, 1041, 1054, 1064, 1072, 1081, 1090, 1094, 561, 410, 648, 687, 688, 692, 719, 723, 710, 708, 709, 307, 1007, 1011, 1015, 160, 704, 256, 948, 952, 956, 961, 960, 426, 427, 441, 438, 435, 431, 233, 919, 928, 184, 744, 859, 871, 895, 896, 897, 898, 103, 503, 1098, 570, 554, 564, 565, 566, 571, 583, 604, 609, 614, 626, 630, 618, 622, 329, 1045, 1049, 1058, 1076, 1085, 190, 875, 748, 760, 752, 764, 756, 768, 772, 777, 92, 1106, 396, 1271, 413, 1283, 417, 1287, 507, 1291, 528, 1311, 536, 1315, 544, 1323, 575, 1343, 584, 1351, 588, 1355, 596, 1367, 634, 1387, 639, 1391, 672, 1395, 696, 1411, 711, 1423, 724, 1427, 728, 1431, 736, 1435, 863, 1451, 899, 1475, 903, 1479, 911, 1483, 920, 1491, 929, 1495, 936, 1499, 940, 1503, 965, 1507, 973, 1527, 981, 1531, 989, 1535, 999, 1543, 1018, 1559, 1022, 1563, 1033, 1567, 1037, 1571, 1050, 1579, 1060, 1587, 1068, 1591, 1077, 1599, 1086, 1603, 1109, 1339, 1303, 1307, 1275, 1279, 1295, 1299, 1319, 1335, 1331, 1327, 1347, 1359, 1363, 1379, 1383, 1375, 1371, 1407, 1403, 1399, 1419, 1415, 1443, 1447, 1439, 1471, 1459, 1463, 1467, 1455, 1487, 1515, 1523, 1511, 1519, 1555, 1551, 1547, 1575, 1583, 1595, 1607, 1611, 795, 785, 879, 791, 781, 799, 885, 882, 806, 802, 805, 807, 100, 157, 181, 230, 253, 304, 326, 684, 695, 187, 558, 608, 1059]
def z_mw (q : Nat × Nat × Nat) : Cond := if q.2.1 = 999 then Cond.methodLink (z_own (q.1 / 2000)) (q.1 % 2000) Lib.objectInit else if q.2.2 = 0 then Cond.methodLink (z_own (q.1 / 2000)) (q.1 % 2000) (z_nm q.2.1) else Cond.methodLinkNest (z_own (q.1 / 2000)) (q.1 % 2000) (z_nm q.2.1) "StuntSet"
theorem z_mwZ : ∀ x ∈ z_mtdT.zip z_mtdP, lw_tbl[x.2]? = some (z_mw x.1) := by decide +kernel
theorem z_mwB : ∀ q ∈ z_mtdT, q.2.1 = 999 ∨ q.2.1 < 233 := by decide +kernel
theorem z_okMA : ∀ q ∈ z_mtdT, q.2.1 = 999 ∧ Cond.methodLink (z_own (q.1 / 2000)) (q.1 % 2000) Lib.objectInit ∈ lw_tbl ∨ q.2.1 < 233 ∧ (q.2.2 = 0 ∧ Cond.methodLink (z_own (q.1 / 2000)) (q.1 % 2000) (z_nm q.2.1) ∈ lw_tbl ∨ q.2.2 ≠ 0 ∧ Cond.methodLinkNest (z_own (q.1 / 2000)) (q.1 % 2000) (z_nm q.2.1) "StuntSet" ∈ lw_tbl) := by
  intro q hq
  have h := z_zip (g := z_mw) (by decide +kernel) z_mwZ q hq
  unfold z_mw at h
  rcases z_mwB q hq with h1 | h1
  · rw [if_pos h1] at h; exact Or.inl ⟨h1, h⟩
  · rw [if_neg (by omega)] at h
    by_cases h2 : q.2.2 = 0
    · rw [if_pos h2] at h; exact Or.inr ⟨h1, Or.inl ⟨h2, h⟩⟩
    · rw [if_neg h2] at h; exact Or.inr ⟨h1, Or.inr ⟨h2, h⟩⟩
theorem z_okO : Cond.instanceMethod Lib.objectInit ∈ lw_tbl ∧ Cond.code Lib.objectInit ⟨#[0xb1]⟩ 1 none ∈ lw_tbl := ⟨List.mem_of_getElem? (i := 96) (by decide +kernel), List.mem_of_getElem? (i := 97) (by decide +kernel)⟩
def z_clsP : List Nat := [185, 98, 155, 179, 228, 251, 302, 324, 421, 643, 90, 1104]
theorem z_clsZ : ∀ x ∈ z_clsT.zip z_clsP, lw_tbl[x.2]? = some (Cond.classLink (z_own (x.1.1 / 2000)) (x.1.1 % 2000) (z_own x.1.2)) := by decide +kernel
theorem z_clsB : ∀ q ∈ z_clsT, q.2 < 12 := by decide +kernel
theorem z_okCA : ∀ q ∈ z_clsT, q.2 < 12 ∧ Cond.classLink (z_own (q.1 / 2000)) (q.1 % 2000) (z_own q.2) ∈ lw_tbl := fun q hq => ⟨z_clsB q hq, z_zip (g := fun q : Nat × Nat => Cond.classLink (z_own (q.1 / 2000)) (q.1 % 2000) (z_own q.2)) (by decide +kernel) z_clsZ q hq⟩
def z_acl (t : Nat) : String := if t = 3 then "StuntSet$Mover" else if t = 4 then "StuntSet$Camera" else "StuntSet$Text"
def z_anwP : List Nat := [161, 185, 104]
def z_anoP : List Nat := [162, 211, 105]
theorem z_anwZ : ∀ x ∈ z_anwT.zip z_anwP, lw_tbl[x.2]? = some (Cond.classLink (z_own (x.1.1 / 2000)) (x.1.1 % 2000) (z_acl x.1.2)) := by decide +kernel
theorem z_anoZ : ∀ x ∈ z_anwT.zip z_anoP, lw_tbl[x.2]? = some (Cond.arrayOver (.object (z_acl x.1.2))) := by decide +kernel
theorem z_anwB : ∀ q ∈ z_anwT, 3 ≤ q.2 ∧ q.2 < 6 := by decide +kernel
theorem z_okAA : ∀ q ∈ z_anwT, 3 ≤ q.2 ∧ q.2 < 6 ∧ Cond.classLink (z_own (q.1 / 2000)) (q.1 % 2000) (z_acl q.2) ∈ lw_tbl ∧ Cond.arrayOver (.object (z_acl q.2)) ∈ lw_tbl := fun q hq => ⟨(z_anwB q hq).1, (z_anwB q hq).2, z_zip (g := fun q : Nat × Nat => Cond.classLink (z_own (q.1 / 2000)) (q.1 % 2000) (z_acl q.2)) (by decide +kernel) z_anwZ q hq, z_zip (g := fun q : Nat × Nat => Cond.arrayOver (.object (z_acl q.2))) (by decide +kernel) z_anoZ q hq⟩
theorem z_okRA : Cond.arrayClass .int ∈ lw_tbl ∧ Cond.arrayClass .boolean ∈ lw_tbl ∧ Cond.arrayClass .byte ∈ lw_tbl := ⟨List.mem_of_getElem? (i := 154) (by decide +kernel), List.mem_of_getElem? (i := 1270) (by decide +kernel), List.mem_of_getElem? (i := 210) (by decide +kernel)⟩
def z_cstP : List Nat := [993, 994, 613, 1539, 1540, 1541, 1542, 1101, 1102, 1103]
def z_clgP : List Nat := [1615]
theorem z_cstZ : ∀ x ∈ z_cstT.zip z_cstP, lw_tbl[x.2]? = some (Cond.constant (z_own (x.1.1 / 2000)) (x.1.1 % 2000) x.1.2) := by decide +kernel
theorem z_okK : ∀ q ∈ z_cstT, Cond.constant (z_own (q.1 / 2000)) (q.1 % 2000) q.2 ∈ lw_tbl := z_zip (g := fun q : Nat × Int32 => Cond.constant (z_own (q.1 / 2000)) (q.1 % 2000) q.2) (by decide +kernel) z_cstZ
theorem z_clgZ : ∀ x ∈ z_clgT.zip z_clgP, lw_tbl[x.2]? = some (Cond.constantLong (z_own (x.1.1 / 2000)) (x.1.1 % 2000) x.1.2) := by decide +kernel
theorem z_okKL : ∀ q ∈ z_clgT, Cond.constantLong (z_own (q.1 / 2000)) (q.1 % 2000) q.2 ∈ lw_tbl := z_zip (g := fun q : Nat × Int64 => Cond.constantLong (z_own (q.1 / 2000)) (q.1 % 2000) q.2) (by decide +kernel) z_clgZ
theorem z_okKS : ∀ q ∈ z_strT, z_own (q / 2000) = "StuntSet$Text" ∧ q % 2000 = 22 := by decide +kernel
def z_sC (k : Nat) : String := if k = 0 then "StuntSet" else if k = 1 then "StuntSet" else if k = 2 then "java/lang/String" else "jdk/internal/util/Preconditions"
def z_sn (k : Nat) : String := if k = 0 then "DIRECTION_X" else if k = 1 then "DIRECTION_Y" else if k = 2 then "COMPACT_STRINGS" else "SIOOBE_FORMATTER"
def z_sd (k : Nat) : String := if k = 0 then "[I" else if k = 1 then "[I" else if k = 2 then "Z" else "Ljava/util/function/BiFunction;"
def z_sw (q : Nat × Nat × Nat) : Cond := if q.2.2 = 0 then Cond.fieldLink (z_own (q.1 / 2000)) (q.1 % 2000) (z_sC q.2.1) (z_sn q.2.1) (z_sd q.2.1) else Cond.fieldLinkNest (z_own (q.1 / 2000)) (q.1 % 2000) (z_sC q.2.1) (z_sn q.2.1) (z_sd q.2.1) "StuntSet"
def z_staP : List Nat := [518, 789, 828, 685, 686, 446, 444]
theorem z_swZ : ∀ x ∈ z_staT.zip z_staP, lw_tbl[x.2]? = some (z_sw x.1) := by decide +kernel
theorem z_swB : ∀ q ∈ z_staT, q.2.1 < 4 := by decide +kernel
theorem z_okS : ∀ q ∈ z_staT, q.2.1 < 4 ∧ (q.2.2 = 0 ∧ Cond.fieldLink (z_own (q.1 / 2000)) (q.1 % 2000) (z_sC q.2.1) (z_sn q.2.1) (z_sd q.2.1) ∈ lw_tbl ∨ Cond.fieldLinkNest (z_own (q.1 / 2000)) (q.1 % 2000) (z_sC q.2.1) (z_sn q.2.1) (z_sd q.2.1) "StuntSet" ∈ lw_tbl) := by
  intro q hq
  have h := z_zip (g := z_sw) (by decide +kernel) z_swZ q hq
  unfold z_sw at h
  refine ⟨z_swB q hq, ?_⟩
  by_cases h2 : q.2.2 = 0
  · rw [if_pos h2] at h; exact Or.inl ⟨h2, h⟩
  · rw [if_neg h2] at h; exact Or.inr h
theorem z_ilA : ∀ c ∈ z_cod, ∀ q ∈ c, z_il q.2.1 q.2.2 = true := by decide +kernel
theorem z_ilOk {y pc : Nat} {q : Instr × Nat} (h : z_ins y pc = some q) : z_il q.1 q.2 = true := by
  have h1 := z_key_mem h
  rcases Nat.lt_or_ge y z_cod.length with hy | hy
  · have h2 : z_cod.getD y [] ∈ z_cod := by
      rw [List.getD_eq_getElem?_getD, List.getElem?_eq_getElem hy]
      exact List.getElem_mem hy
    exact z_ilA _ h2 _ h1
  · rw [List.getD_eq_getElem?_getD, List.getElem?_eq_none hy] at h1
    cases h1
theorem z_tkey {α : Type} {l : List (Nat × α)} {P : Nat × α → Prop} (hA : ∀ q ∈ l, P q) {o i : Nat} {x : α} (h : (if i < 2000 then z_key l (o * 2000 + i) else none) = some x) : P (o * 2000 + i, x) ∧ (o * 2000 + i) / 2000 = o ∧ (o * 2000 + i) % 2000 = i := by
  by_cases hi : i < 2000
  · rw [if_pos hi] at h
    exact ⟨hA _ (z_key_mem h), by omega, by omega⟩
  · rw [if_neg hi] at h; cases h
