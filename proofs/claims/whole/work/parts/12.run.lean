section ZS
/-- the contract's entry, of any method that no row of natives stands for -/
theorem z_ofW {l : Launch} {y : MethodName} {ws ws' : List Cond} {rm : Room} {Pc : Array Value → State → Prop} {Qc : Array Value → State → Outcome → State → Prop} {mc ms : Nat} {free : Addr → Prop} {cc : ByteArray} {maxL : Nat} {ret : Option FieldType}
    (hy : plainFor y = true) (hw : ws = Cond.code y cc maxL ret :: ws')
    (body : ∀ p e s m args below meth c s₁, BodyLoose p l y (headSpec ws rm) cc maxL ret e s m args below meth c s₁ → c.maxLocals = maxL → Pc args s →
      W p l e (headSpec ws rm).room s m args below meth c s.heap [] 0 0 (MQ below Qc args s mc ms free) (entryFrame m args maxL)) : Met l y ws rm Pc Qc mc ms free := by
  refine MetFree.of_bodySF (code := cc) (maxLocals := maxL) (ret := ret) hy ?_ ?_
  · intro args s m h hn
    obtain ⟨meth, c, h1, h2, h3, h4, h5, h6, -, -⟩ := Cond.code_spec hn (atoms_spec (ws := ws) h _ (by rw [hw]; exact List.mem_cons_self))
    exact ⟨meth, c, h1, h2, h3, h4, h5, h6⟩
  · intro p e s m args below meth c s₁ B hml hP _
    have hh0 : s₁.heap = s.heap := by rw [B.state]; rfl
    obtain ⟨t, a1, o, b1, b2, b3⟩ := body p e s m args below meth c s₁ B hml hP s₁ hh0 (Stand.of_body B)
    exact ⟨t, o, a1, b1, b2, ⟨b3.1, b3.2⟩⟩
variable {E : z_Env}
theorem z_sl_len (hS : z_St E) (as : List z_V) : (lg_sl (as.map (z_tv E))).length = (z_slots as).length := by
  induction as with
  | nil => rfl
  | cons v l ih =>
    have h1 : lg_sl ((v :: l).map (z_tv E)) = (if (z_tv E v).category = 2 then [Slot.val (z_tv E v), .second] else [.val (z_tv E v)]) ++ lg_sl (l.map (z_tv E)) := by simp [lg_sl]
    rw [h1, List.length_append, ih, z_cat_tv hS]
    rcases v with x | x | x
    · simp [z_cat, z_slots]; omega
    · simp [z_cat, z_slots]; omega
    · simp [z_cat, z_slots]; omega
theorem z_args_mem (hS : z_St E) : ∀ (as : List z_V) (k i : Nat) (v : z_V), (z_slots as)[i]? = some (some v) → (k + i, z_tv E v) ∈ lv_args k (as.map (z_tv E)) := by
  intro as
  induction as with
  | nil => intro k i v h; simp [z_slots] at h
  | cons w l ih =>
    intro k i v h
    rw [List.map_cons]
    unfold lv_args
    rw [z_cat_tv hS]
    rcases w with x | x | x
    · cases i with
      | zero => simp only [z_slots, List.getElem?_cons_zero, Option.some.injEq] at h; subst h; exact List.mem_cons_self
      | succ i =>
        simp only [z_slots, List.getElem?_cons_succ] at h
        have := ih (k + 1) i v h
        rw [show k + (i + 1) = k + 1 + i by omega]
        exact List.mem_cons_of_mem _ (by simpa [z_cat] using this)
    · cases i with
      | zero => simp only [z_slots, List.getElem?_cons_zero, Option.some.injEq] at h; subst h; exact List.mem_cons_self
      | succ i =>
        cases i with
        | zero => simp [z_slots] at h
        | succ i =>
          simp only [z_slots, List.getElem?_cons_succ] at h
          have := ih (k + 2) i v h
          rw [show k + (i + 1 + 1) = k + 2 + i by omega]
          exact List.mem_cons_of_mem _ (by simpa [z_cat] using this)
    · cases i with
      | zero => simp only [z_slots, List.getElem?_cons_zero, Option.some.injEq] at h; subst h; exact List.mem_cons_self
      | succ i =>
        simp only [z_slots, List.getElem?_cons_succ] at h
        have := ih (k + 1) i v h
        rw [show k + (i + 1) = k + 1 + i by omega]
        exact List.mem_cons_of_mem _ (by simpa [z_cat] using this)
theorem z_entry (hS : z_St E) {y : Nat} {as : List z_V} (hl : (z_slots as).length ≤ z_ml y) (m : MethodId) : ∃ ls : Array Slot, entryFrame m (as.map (z_tv E)).toArray (z_ml y) = F0 m 0 ls [] ∧ ls.size = z_ml y ∧ z_lv E ls (z_ent y as) := by
  have hl2 : (lg_sl (as.map (z_tv E))).length ≤ z_ml y := by rw [z_sl_len hS]; exact hl
  have h1 := lv_entry (as.map (z_tv E)) hl2
  refine ⟨_, lg_entry_eq m _ _, h1.1, ?_, h1.2.1, fun i v hi => ?_⟩
  · rw [h1.1]
    unfold z_ent z_ml
    have : (z_slots as).length ≤ z_mls.getD y 0 := hl
    rw [List.length_append, List.length_replicate]
    omega
  · have hi' : (z_slots as)[i]? = some (some v) := by
      unfold z_ent at hi
      rcases Nat.lt_or_ge i (z_slots as).length with hlt | hge
      · rwa [List.getElem?_append_left hlt] at hi
      · rw [List.getElem?_append_right hge, List.getElem?_replicate] at hi
        split at hi <;> cases hi
    have h2 := z_args_mem hS as 0 i v hi'
    rw [Nat.zero_add] at h2
    exact h1.2.2 _ h2
/-- neither a call nor a return -/
abbrev z_AX : Type := (Nat × List z_V × Nat × z_L × List z_V) ⊕ Option z_V
def z_ar (P : z_AX → Prop) (o : Option z_A) : Prop := ∀ x, P x → o ≠ some (.inr x)
theorem z_ar_none {P : z_AX → Prop} : z_ar P none := fun _ _ e => by cases e
theorem z_ar_go {P : z_AX → Prop} {pc : Nat} {L : z_L} {S : List z_V} {h : z_H} : z_ar P (z_go pc L S h) := fun _ _ e => by unfold z_go at e; cases e
theorem z_ar_bind {P : z_AX → Prop} {α : Type} {o : Option α} {f : α → Option z_A} (hf : ∀ v, o = some v → z_ar P (f v)) : z_ar P (o.bind f) := fun x hx e => by
  obtain ⟨v, h1, h2⟩ := z_x_bind e
  exact hf v h1 x hx h2
theorem z_ar_ret {q : Nat × List z_V × Nat × z_L × List z_V} : z_ar (fun x => ∃ v, x = .inr v) (some (.inr (.inl q))) := fun x hx e => by
  obtain ⟨v, rfl⟩ := hx
  cases e
theorem z_ar_cal {v : Option z_V} : z_ar (fun x => ∃ q, x = .inl q) (some (.inr (.inr v))) := fun x hx e => by
  obtain ⟨q, rfl⟩ := hx
  cases e
theorem z_ar_no1 {o : Option z_A} {v : Option z_V} (ho : z_ar (fun x => ∃ v, x = .inr v) o) : o = some (.inr (.inr v)) → False := ho _ ⟨v, rfl⟩
theorem z_ar_no2 {o : Option z_A} {q : Nat × List z_V × Nat × z_L × List z_V} (ho : z_ar (fun x => ∃ q, x = .inl q) o) : o = some (.inr (.inl q)) → False := ho _ ⟨q, rfl⟩
/-- what a return leaves -/
def z_retOk (y : Nat) (i : Instr) (v : Option z_V) : Prop :=
  (i = .ireturn ∧ ∃ x : Int32, v = some (.inl x) ∧ (z_rk y = 1 ∨ (z_rk y = 2 ∧ (x = 0 ∨ x = 1)) ∨ (z_rk y = 3 ∧ x.toInt8.toInt32 = x) ∨ (z_rk y = 4 ∧ (x.toUInt32 % 65536).toInt32 = x))) ∨
  (i = .areturn ∧ z_rk y = 5 ∧ ∃ x : Option Nat, v = some (.inr (.inr x))) ∨ (i = .return_ ∧ z_rk y = 0 ∧ v = none)
theorem z_x_ret {y pc : Nat} {i : Instr} {L : z_L} {S : List z_V} {h : z_H} {v : Option z_V} (e : z_do y pc i L S h = some (.inr (.inr v))) : z_retOk y i v ∧ S = v.toList := by
  cases i with
  | ireturn =>
    simp only [z_do] at e
    split at e
    case h_2 => cases e
    case h_1 x =>
      split at e
      case isFalse => cases e
      case isTrue hc => cases e; exact ⟨Or.inl ⟨rfl, x, rfl, hc⟩, rfl⟩
  | areturn =>
    simp only [z_do] at e
    split at e
    case h_2 => cases e
    case h_1 x =>
      split at e
      case isFalse => cases e
      case isTrue hc => cases e; exact ⟨Or.inr (Or.inl ⟨rfl, hc, x, rfl⟩), rfl⟩
  | return_ =>
    simp only [z_do] at e
    split at e
    case h_2 => cases e
    case h_1 =>
      split at e
      case isFalse => cases e
      case isTrue hc => cases e; exact ⟨Or.inr (Or.inr ⟨rfl, hc, rfl⟩), rfl⟩
  | _ =>
    exfalso
    revert e
    apply z_ar_no1
    simp only [z_do, z_bin, z_div, z_una, z_shl64, z_bin64, z_stl, z_br, z_jmp]
    repeat' (first | exact z_ar_none | exact z_ar_go | exact z_ar_ret | (refine z_ar_bind fun _ _ => ?_) | split)
/-- what a call is -/
theorem z_x_call {y pc : Nat} {i : Instr} {L : z_L} {S : List z_V} {h : z_H} {q : Nat × List z_V × Nat × z_L × List z_V} (e : z_do y pc i L S h = some (.inr (.inl q))) :
    (∃ k g, i = .invokestatic k ∧ z_mtd y k = some g ∧ g.1 = q.1 ∧ q.1 < 999 ∧ z_kn q.1 = 0 ∧ q.2.1.length = z_np q.1 ∧ S = q.2.1.reverse ++ q.2.2.2.2 ∧ z_cats q.2.2.2.2 ≤ 8 ∧ q.2.2.1 = pc + 3 ∧ q.2.2.2.1 = L) ∨
    (∃ k g r as, i = .invokevirtual k ∧ z_mtd y k = some g ∧ g.1 = q.1 ∧ q.1 < 999 ∧ z_kn q.1 = 1 ∧ q.2.1 = .inr (.inr r) :: as ∧ z_ob h r (z_oi q.1) = some () ∧ as.length = z_np q.1 ∧ S = as.reverse ++ .inr (.inr r) :: q.2.2.2.2 ∧ z_cats q.2.2.2.2 ≤ 8 ∧ q.2.2.1 = pc + 3 ∧ q.2.2.2.1 = L) ∨
    (∃ k g r as, i = .invokespecial k ∧ z_mtd y k = some g ∧ g.1 = q.1 ∧ q.1 < 999 ∧ z_kn q.1 = 2 ∧ q.2.1 = .inr (.inr r) :: as ∧ z_nul r = some false ∧ as.length = z_np q.1 ∧ S = as.reverse ++ .inr (.inr r) :: q.2.2.2.2 ∧ z_cats q.2.2.2.2 ≤ 8 ∧ q.2.2.1 = pc + 3 ∧ q.2.2.2.1 = L) := by
  cases i with
  | invokestatic k =>
    obtain ⟨g, h1, h2⟩ := z_x_bind e
    split at h2
    case isFalse => cases h2
    case isTrue hc =>
      cases h2
      refine Or.inl ⟨k, g, rfl, h1, rfl, hc.1, hc.2.1, ?_, ?_, hc.2.2.2, rfl, rfl⟩
      · show (List.reverse _).length = z_nps.getD g.1 0
        rw [List.length_reverse, List.length_take]; omega
      · show S = (List.reverse (List.reverse _)) ++ _
        rw [List.reverse_reverse]; exact (List.take_append_drop _ _).symm
  | invokevirtual k =>
    obtain ⟨g, h1, h2⟩ := z_x_bind e
    split at h2
    case h_2 => cases h2
    case h_1 r S' hS' =>
      split at h2
      case isFalse => cases h2
      case isTrue hc =>
        obtain ⟨u, h3, h4⟩ := z_x_bind h2
        cases h4
        have hlen : z_nps.getD g.1 0 ≤ S.length := by
          rcases Nat.lt_or_ge S.length (z_nps.getD g.1 0) with hlt | hge
          · rw [List.drop_eq_nil_of_le (Nat.le_of_lt hlt)] at hS'; cases hS'
          · exact hge
        refine Or.inr (Or.inl ⟨k, g, r, _, rfl, h1, rfl, hc.1, hc.2.2, rfl, h3, ?_, ?_, hc.2.1, rfl, rfl⟩)
        · show (List.reverse _).length = z_nps.getD g.1 0
          rw [List.length_reverse, List.length_take]; omega
        · rw [List.reverse_reverse, ← hS']; exact (List.take_append_drop _ _).symm
  | invokespecial k =>
    obtain ⟨g, h1, h2⟩ := z_x_bind e
    split at h2
    case isTrue =>
      exfalso
      split at h2
      case h_2 => cases h2
      case h_1 r S' =>
        obtain ⟨b, _, h2⟩ := z_x_bind h2
        split at h2
        case isFalse => cases h2
        case isTrue => unfold z_go at h2; cases h2
    case isFalse =>
      split at h2
      case h_2 => cases h2
      case h_1 r S' hS' =>
        obtain ⟨b, hb, h2⟩ := z_x_bind h2
        split at h2
        case isFalse => cases h2
        case isTrue hc =>
          cases h2
          obtain ⟨rfl, hc⟩ := hc
          have hlen : z_nps.getD g.1 0 ≤ S.length := by
            rcases Nat.lt_or_ge S.length (z_nps.getD g.1 0) with hlt | hge
            · rw [List.drop_eq_nil_of_le (Nat.le_of_lt hlt)] at hS'; cases hS'
            · exact hge
          refine Or.inr (Or.inr ⟨k, g, r, _, rfl, h1, rfl, hc.1, hc.2.2, rfl, hb, ?_, ?_, hc.2.1, rfl, rfl⟩)
          · show (List.reverse _).length = z_nps.getD g.1 0
            rw [List.length_reverse, List.length_take]; omega
          · rw [List.reverse_reverse, ← hS']; exact (List.take_append_drop _ _).symm
  | _ =>
    exfalso
    revert e
    apply z_ar_no2
    simp only [z_do, z_bin, z_div, z_una, z_shl64, z_bin64, z_stl, z_br, z_jmp]
    repeat' (first | exact z_ar_none | exact z_ar_go | exact z_ar_cal | (refine z_ar_bind fun _ _ => ?_) | split)
end ZS
section ZU
variable {E : z_Env} {h : z_H} {H : Heap} {s : State}
/-- a receiver -/
theorem z_recv (hS : z_St E) (ok : z_ok E h H) (hw : (e_s E).WarmedH s.vm) {r : Option Nat} {ci : Nat} (ho : z_ob h r ci = some ()) : ∃ a, r = some a ∧ a ≠ 5 ∧ ∃ cellB : Cell, H[z_B E a]? = some cellB ∧ cellB.vm.isStatics = false ∧ s.vm.findClass (z_own ci) = some cellB.cls := by
  unfold z_ob at ho
  split at ho
  case h_1 => cases ho
  case h_2 a =>
    split at ho
    case h_2 => cases ho
    case h_1 c fs ha =>
      split at ho
      case isFalse => cases ho
      case isTrue hc =>
        subst hc
        refine ⟨a, rfl, ?_⟩
        rcases Nat.lt_or_ge c 12 with h12 | h12
        · obtain ⟨q1, q2, q3, q4, cell, g1, g2, g3, -⟩ := z_obj ok h12 ha
          have hKn := (z_KK hS hw).1 c _ (z_vcA c h12).1
          exact ⟨q3, cell, g1, by rw [g3]; rfl, by rw [g2, ← (z_vcA c h12).2.1]; exact hKn.2.1⟩
        · obtain ⟨rfl, rfl, -⟩ := z_str3 ok h12 ha
          obtain ⟨-, -, -, -, -, -, -, hO, -⟩ := id hS
          obtain ⟨cell, g1, g2, g3, g4⟩ := va_O.moved hw.alike hO
          exact ⟨by decide, cell, by rw [show z_B E 3 = e_p E 3 from rfl, ok.2.2.1 _ (Nat.not_le.mp g4)]; exact g1, g2, g3⟩
end ZU
