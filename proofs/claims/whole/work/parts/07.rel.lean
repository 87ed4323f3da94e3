/-! the small machine's states and the machine's: what stands where -/
abbrev z_Env : Type := State × Array Value × (Nat → ClassId) × (Nat → Nat → Nat) × (Nat → ClassId) × (Nat → Nat) × Value × Nat × (Nat → Int32)
def e_s (E : z_Env) : State := E.1
def e_a (E : z_Env) : Array Value := E.2.1
def e_C (E : z_Env) : Nat → ClassId := E.2.2.1
def e_I (E : z_Env) : Nat → Nat → Nat := E.2.2.2.1
def e_A (E : z_Env) : Nat → ClassId := E.2.2.2.2.1
def e_p (E : z_Env) : Nat → Nat := E.2.2.2.2.2.1
def e_v (E : z_Env) : Value := E.2.2.2.2.2.2.1
def e_L (E : z_Env) : Nat := E.2.2.2.2.2.2.2.1
def e_x (E : z_Env) : Nat → Int32 := E.2.2.2.2.2.2.2.2
def z_base (E : z_Env) : Nat := (e_s E).heap.size
def z_B (E : z_Env) (a : Nat) : Nat := if a < 6 then e_p E a else z_base E + (a - 6)
def z_rv (E : z_Env) (r : Option Nat) : Value := match r with
  | none => .null
  | some a => if a = 5 then e_v E else .ref (z_B E a)
def z_tv (E : z_Env) (v : z_V) : Value := match v with
  | .inl x => .int x
  | .inr (.inl x) => .long x
  | .inr (.inr r) => z_rv E r
def z_okc (E : z_Env) (x : z_C) (q : Nat) (H : Heap) : Prop := match x with
  | .inl (t, n, f) => t < 3 ∧ H[q]? = some (arrV (e_A E t) n (fun j => .int (f j)))
  | .inr (.inl (t, n, f)) => 3 ≤ t ∧ t < 6 ∧ H[q]? = some (arrV (e_A E t) n (fun j => z_rv E (f j)))
  | .inr (.inr (ci, fs)) => ∃ r : vw_C, vwCl[ci]? = some r ∧ t_OB q (e_C E ci) r.2.2 (e_I E ci) H (vp_V (fs.map (z_tv E)))
def z_dx (j : Nat) : Int32 := ([1, 1, 0, -1, -1, -1, 0, 1] : List Int32).getD j 0
def z_dy (j : Nat) : Int32 := ([0, 1, 1, 1, 0, -1, -1, -1] : List Int32).getD j 0
def z_wb (j : Nat) : Int32 := ([119, 103, 115, 116, 104, 113, 98] : List Int32).getD j 0
def z_junk : z_C := .inl (99, 0, fun _ => 0)
def z_ro (E : z_Env) (a : Nat) : z_C := if a = 0 then .inl (10, e_L E, e_x E) else if a = 1 then .inl (10, 8, z_dx) else if a = 2 then .inl (10, 8, z_dy) else if a = 3 then .inr (.inr (12, [.inr (.inr (some 4)), .inl 0])) else if a = 4 then .inl (12, 7, z_wb) else z_junk
def z_ok (E : z_Env) (h : z_H) (H : Heap) : Prop := H.size + 6 = z_base E + h.1 ∧ 6 ≤ h.1 ∧ (∀ q, q < z_base E → H[q]? = (e_s E).heap[q]?) ∧ (∀ a, 6 ≤ a → a < h.1 → z_okc E (h.2.2 a) (z_base E + (a - 6)) H) ∧ (∀ a, a < 6 → h.2.2 a = z_ro E a) ∧ (∀ a, h.1 ≤ a → h.2.2 a = z_junk)
def z_aty (t : Nat) : FieldType := if t = 0 then .int else if t = 1 then .boolean else if t = 2 then .byte else if t = 3 then .object "StuntSet$Mover" else if t = 4 then .object "StuntSet$Camera" else .object "StuntSet$Text"
/-- what the Statement gives of the start -/
def z_St (E : z_Env) : Prop :=
  (∀ w ∈ lw_tbl, w.before (e_a E) (e_s E) = true) ∧
  (∀ (k : Nat) (q : vw_C), vwCl[k]? = some q → u_Kn (e_s E) q.1 q.2.1 q.2.2 (e_C E k) (e_I E k)) ∧
  (∀ t, t < 6 → ArrOfT (e_s E) (e_A E t) (z_aty t) ∧ va_RA (e_s E) (e_A E t) (z_aty t)) ∧
  (va_X (e_p E 0) (e_L E) (e_x E) (e_s E) (e_s E).heap ∧ e_p E 0 < z_base E ∧ e_L E < 2 ^ 31) ∧
  (va_T .int (e_p E 1) 8 (fun j => .int (z_dx j)) (fun q => z_base E ≤ q) (e_s E) (e_s E).heap) ∧
  (va_T .int (e_p E 2) 8 (fun j => .int (z_dy j)) (fun q => z_base E ≤ q) (e_s E) (e_s E).heap) ∧
  (va_T .byte (e_p E 4) 7 (fun j => .int (z_wb j)) (fun q => z_base E ≤ q) (e_s E) (e_s E).heap) ∧
  (va_O "java/lang/String" (e_p E 3) (fun q => z_base E ≤ q) (e_s E) (e_s E).heap) ∧
  (va_OF "java/lang/String" "value" "[B" (.ref (e_p E 4)) (e_p E 3) (fun q => z_base E ≤ q) (e_s E) (e_s E).heap) ∧
  (va_OF "java/lang/String" "coder" "B" (.int 0) (e_p E 3) (fun q => z_base E ≤ q) (e_s E) (e_s E).heap) ∧
  (va_Z "StuntSet" "DIRECTION_X" "[I" (.ref (e_p E 1)) (fun q => z_base E ≤ q) (e_s E) (e_s E).heap) ∧
  (va_Z "StuntSet" "DIRECTION_Y" "[I" (.ref (e_p E 2)) (fun q => z_base E ≤ q) (e_s E) (e_s E).heap) ∧
  (va_Z "java/lang/String" "COMPACT_STRINGS" "Z" (.int 1) (fun q => z_base E ≤ q) (e_s E) (e_s E).heap) ∧
  (va_Z "jdk/internal/util/Preconditions" "SIOOBE_FORMATTER" "Ljava/util/function/BiFunction;" (e_v E) (fun q => z_base E ≤ q) (e_s E) (e_s E).heap) ∧
  (vk_R "StuntSet$Text" 22 "wgsthqb" (e_p E 3) (e_s E)) ∧
  (e_v E = .null ∨ ∃ t, e_v E = .ref t)
def z_Cx (E : z_Env) (y : Nat) (p : Program) (s : State) (m : MethodId) (meth : Method) (c : Code) : Prop :=
  p.tables.exec = Jvm.exec ∧ c.code = z_bc y ∧ c.maxLocals = z_ml y ∧ s.vm.findClass (z_own (z_oi y)) = some m.cls ∧ (e_s E).WarmedH s.vm ∧ meth.locks = false ∧ (z_kn y = 2 → meth.name = "<init>") ∧ meth.sig.returnType = z_rt y
def z_lv (E : z_Env) (ls : Array Slot) (L : z_L) : Prop := ls.size = L.length ∧ lv_wf ls ∧ ∀ (i : Nat) (v : z_V), L[i]? = some (some v) → ls[i]? = some (.val (z_tv E v))
section ZR
variable {E : z_Env} {h : z_H} {H H1 : Heap} {s : State}
theorem z_cat_tv (hS : z_St E) (v : z_V) : (z_tv E v).category = z_cat v := by
  obtain ⟨-, -, -, -, -, -, -, -, -, -, -, -, -, -, -, hp⟩ := hS
  rcases v with x | x | r
  · rfl
  · rfl
  · cases r with
    | none => rfl
    | some a =>
      show (if a = 5 then e_v E else .ref (z_B E a)).category = 1
      by_cases ha : a = 5
      · rw [if_pos ha]
        rcases hp with hp | ⟨t, hp⟩ <;> rw [hp] <;> rfl
      · rw [if_neg ha]; rfl
theorem z_cats_tv (hS : z_St E) (S : List z_V) : ((S.map (z_tv E)).map fun v => v.category).sum = z_cats S := by
  induction S with
  | nil => rfl
  | cons v l ih => simp only [List.map_cons, List.sum_cons, ih, z_cat_tv hS, z_cats]
/-- all that is known of the locals, as a list -/
def z_ll (E : z_Env) (L : z_L) : List (Nat × Value) := (List.range L.length).filterMap fun i => match L[i]? with | some (some v) => some (i, z_tv E v) | _ => none
theorem z_ll_mem {L : z_L} {i : Nat} {v : z_V} (h : L[i]? = some (some v)) : (i, z_tv E v) ∈ z_ll E L := by
  refine List.mem_filterMap.mpr ⟨i, List.mem_range.mpr (List.getElem?_eq_some_iff.mp h).1, ?_⟩
  rw [h]
theorem z_ll_has {ls : Array Slot} {L : z_L} (h : z_lv E ls L) : lv_has ls L.length (z_ll E L) := by
  refine ⟨h.1, h.2.1, fun q hq => ?_⟩
  obtain ⟨i, -, hi⟩ := List.mem_filterMap.mp hq
  split at hi
  · rename_i v hv
    cases hi
    exact h.2.2 i v hv
  · cases hi
theorem z_sto (hS : z_St E) {L L' : z_L} {i : Nat} {v : z_V} (hs : z_set L i v = some L') : i < L.length ∧ L'.length = L.length ∧ ∀ ls' : Array Slot, lv_has ls' L.length ((i, z_tv E v) :: (z_ll E L).filter (fun q => !(q.1 == i) && !(q.1 + 1 == i && q.2.category == 2))) → z_lv E ls' L' := by
  unfold z_set at hs
  split at hs
  case isFalse => cases hs
  case isTrue hc =>
    cases hs
    refine ⟨hc.1, by simp, fun ls' hl => ⟨by rw [List.length_set]; exact hl.1, hl.2.1, fun j w hj => ?_⟩⟩
    by_cases hij : i = j
    · subst hij
      rw [List.getElem?_set_self hc.1] at hj
      cases hj
      exact hl.2.2 _ List.mem_cons_self
    · rw [List.getElem?_set_ne hij] at hj
      refine hl.2.2 (j, z_tv E w) (List.mem_cons_of_mem _ (List.mem_filter.mpr ⟨z_ll_mem hj, ?_⟩))
      have h1 : (j == i) = false := by simpa using fun e => hij e.symm
      have h2 : (j + 1 == i && (z_tv E w).category == 2) = false := by
        rw [z_cat_tv hS]
        by_cases hj1 : j + 1 = i
        · rcases hc.2.1 with h0 | h0
          · omega
          · rw [show i - 1 = j by omega, hj] at h0
            rcases w with x | x | x
            · simp [z_cat]
            · simp [z_isL] at h0
            · simp [z_cat]
        · have : (j + 1 == i) = false := by simpa using hj1
          rw [this]; rfl
      simp [h1, h2]
theorem z_word (hS : z_St E) (hw : (e_s E).WarmedH s.vm) {w : Cond} (hm : w ∈ lw_tbl) (hg : goodWord w = true) (args : Array Value) : w.before args s = true := word_at hw (good_of_word hg) (hS.1 w hm)
theorem z_okc_kept {x : z_C} {q : Nat} (h : z_okc E x q H) (hq : H1[q]? = H[q]?) : z_okc E x q H1 := by
  rcases x with ⟨t, n, f⟩ | ⟨t, n, f⟩ | ⟨ci, fs⟩
  · exact ⟨h.1, hq.trans h.2⟩
  · exact ⟨h.1, h.2.1, hq.trans h.2.2⟩
  · obtain ⟨r, h1, h2⟩ := h
    exact ⟨r, h1, h2.kept hq⟩
/-- a cell is written -/
theorem z_ok_put (ok : z_ok E h H) {a : Nat} (ha : 6 ≤ a) (hl : a < h.1) {x : z_C} (hz : H1.size = H.size) (ho : ∀ q : Nat, q ≠ z_base E + (a - 6) → H1[q]? = H[q]?) (hx : z_okc E x (z_base E + (a - 6)) H1) : z_ok E (z_put h a x) H1 := by
  obtain ⟨o1, o2, o3, o4, o5, o6⟩ := ok
  refine ⟨by rw [hz]; exact o1, o2, fun q hq => ?_, fun b hb hb2 => ?_, fun b hb => ?_, fun b hb => ?_⟩
  · rw [ho q (by omega)]; exact o3 q hq
  · show z_okc E (z_upd h.2.2 a x b) _ H1
    unfold z_upd
    by_cases hba : b = a
    · rw [if_pos hba, hba]; exact hx
    · rw [if_neg hba]
      exact z_okc_kept (o4 b hb hb2) (ho _ (by omega))
  · show z_upd h.2.2 a x b = _
    unfold z_upd
    rw [if_neg (by omega)]; exact o5 b hb
  · show z_upd h.2.2 a x b = _
    unfold z_upd
    have : h.1 ≤ b := hb
    rw [if_neg (by omega)]; exact o6 b hb
/-- a cell is made -/
theorem z_ok_new (ok : z_ok E h H) {x : z_C} {n : Nat} (hz : H1.size = H.size + 1) (ho : ∀ q : Nat, q < H.size → H1[q]? = H[q]?) (hx : z_okc E x H.size H1) : z_ok E (h.1 + 1, h.2.1 + n, z_upd h.2.2 h.1 x) H1 := by
  obtain ⟨o1, o2, o3, o4, o5, o6⟩ := ok
  have hs : H.size = z_base E + (h.1 - 6) := by omega
  refine ⟨by show _ = _ + (h.1 + 1); omega, by show 6 ≤ h.1 + 1; omega, fun q hq => ?_, fun b hb hb2 => ?_, fun b hb => ?_, fun b hb => ?_⟩
  · rw [ho q (by omega)]; exact o3 q hq
  · show z_okc E (z_upd h.2.2 h.1 x b) _ H1
    have hb3 : b < h.1 + 1 := hb2
    unfold z_upd
    by_cases hba : b = h.1
    · rw [if_pos hba, hba, ← hs]; exact hx
    · rw [if_neg hba]
      exact z_okc_kept (o4 b hb (by omega)) (ho _ (by omega))
  · show z_upd h.2.2 h.1 x b = _
    unfold z_upd
    rw [if_neg (by omega)]; exact o5 b hb
  · show z_upd h.2.2 h.1 x b = _
    have hb3 : h.1 + 1 ≤ b := hb
    unfold z_upd
    rw [if_neg (by omega)]; exact o6 b (by omega)
/-- what is no junk is one of the six, or one that was made -/
theorem z_adr (ok : z_ok E h H) {a : Nat} (ha : h.2.2 a ≠ z_junk) : a < 6 ∨ (6 ≤ a ∧ a < h.1) := by
  obtain ⟨o1, o2, o3, o4, o5, o6⟩ := ok
  by_cases h6 : a < 6
  · exact Or.inl h6
  · refine Or.inr ⟨by omega, ?_⟩
    rcases Nat.lt_or_ge a h.1 with h1 | h1
    · exact h1
    · exact absurd (o6 a h1) ha
theorem z_jk {t n : Nat} {f : Nat → Int32} (ht : t ≠ 99) : (Sum.inl (t, n, f) : z_C) ≠ z_junk := fun e => ht (by unfold z_junk at e; exact (Prod.mk.inj (Sum.inl.inj e)).1)
theorem z_jkr {x : (Nat × Nat × (Nat → Option Nat)) ⊕ (Nat × List z_V)} : (Sum.inr x : z_C) ≠ z_junk := fun e => by unfold z_junk at e; cases e
/-- an array of numbers, for reading -/
theorem z_rdI (hS : z_St E) (ok : z_ok E h H) (hw : (e_s E).WarmedH s.vm) {a t n : Nat} {f : Nat → Int32} (ha : h.2.2 a = .inl (t, n, f)) (ht : t ≠ 99) : ∃ (cell : Cell) (t' : Nat), a ≠ 5 ∧ (t' = t ∨ t = t' + 10) ∧ t' < 3 ∧ H[z_B E a]? = some cell ∧ s.isArrayOf cell (z_aty t') ∧ cell.vm ≠ .unknown ∧ n ≤ cell.slots.size ∧ cell.slots.size.toInt32 = Int32.ofNat n ∧ ∀ j : Nat, j < n → cell.slots[j]? = some (.int (f j)) := by
  have hadr := z_adr ok (by rw [ha]; exact z_jk ht)
  obtain ⟨o1, o2, o3, o4, o5, o6⟩ := ok
  obtain ⟨-, -, hA, ⟨⟨scr, x1, x2, x3, x4, x5⟩, xl, xL⟩, ⟨c1, p1, p2, p3, p4, p5, p6, p7⟩, ⟨c2, q1, q2, q3, q4, q5, q6, q7⟩, ⟨c4, r1, r2, r3, r4, r5, r6, r7⟩, -⟩ := hS
  have hal : (e_s E).vm.Alike s.vm := hw.alike
  have lo : ∀ k, k < 6 → ∀ cell, ¬ z_base E ≤ e_p E k → (e_s E).heap[e_p E k]? = some cell → H[z_B E k]? = some cell := fun k hk cell hb hc => by
    unfold z_B; rw [if_pos hk, o3 _ (by omega)]; exact hc
  rcases hadr with h6 | ⟨h6, hlt⟩
  · have hro := o5 a h6
    rw [ha] at hro
    rcases (show a = 0 ∨ a = 1 ∨ a = 2 ∨ a = 3 ∨ a = 4 ∨ a = 5 by omega) with e | e | e | e | e | e <;> subst e
    · cases (Sum.inl.inj hro)
      exact ⟨scr, 0, by decide, Or.inr rfl, by decide, lo 0 (by decide) _ (by omega) x1, State.isArrayOf_alike hal x2, x3, by omega, by rw [x4], x5⟩
    · cases (Sum.inl.inj hro)
      exact ⟨c1, 0, by decide, Or.inr rfl, by decide, lo 1 (by decide) _ p7 p1, State.isArrayOf_alike hal p2, p3, p4, p5, p6⟩
    · cases (Sum.inl.inj hro)
      exact ⟨c2, 0, by decide, Or.inr rfl, by decide, lo 2 (by decide) _ q7 q1, State.isArrayOf_alike hal q2, q3, q4, q5, q6⟩
    · exact absurd hro (by simp [z_ro])
    · cases (Sum.inl.inj hro)
      exact ⟨c4, 2, by decide, Or.inr rfl, by decide, lo 4 (by decide) _ r7 r1, State.isArrayOf_alike hal r2, r3, r4, r5, r6⟩
    · exact absurd (show (Sum.inl (t, n, f) : z_C) = z_junk from hro) (z_jk ht)
  · have hc := o4 a h6 hlt
    rw [ha] at hc
    have hB : z_B E a = z_base E + (a - 6) := by unfold z_B; rw [if_neg (by omega)]
    refine ⟨_, t, by omega, Or.inl rfl, hc.1, by rw [hB]; exact hc.2, State.isArrayOf_alike hal ((hA t (by have := hc.1; omega)).1 n _), (fun q => by cases q), by rw [arrV_size]; exact Nat.le_refl _, by rw [arrV_size], fun j hj => arrV_read _ _ hj⟩
end ZR
