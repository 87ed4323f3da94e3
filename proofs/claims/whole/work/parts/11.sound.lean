/-! a run of the small machine is a run of the machine -/
section ZM
/-- a step makes no cell less -/
def z_am (h : z_H) (o : Option z_A) : Prop := ∀ q, o = some (.inl q) → h.1 ≤ q.2.2.2.1 ∧ h.2.1 ≤ q.2.2.2.2.1
variable {y pc : Nat} {L : z_L} {S : List z_V} {h h' : z_H}
theorem z_am_none : z_am h none := fun _ e => by cases e
theorem z_am_call {x : (Nat × List z_V × Nat × z_L × List z_V) ⊕ Option z_V} : z_am h (some (.inr x)) := fun _ e => by cases e
theorem z_am_go (h1 : h.1 ≤ h'.1) (h2 : h.2.1 ≤ h'.2.1) : z_am h (z_go pc L S h') := fun q e => by have := z_x_go e; subst this; exact ⟨h1, h2⟩
theorem z_am_id : z_am h (z_go pc L S h) := z_am_go (Nat.le_refl _) (Nat.le_refl _)
theorem z_am_bind {α : Type} {o : Option α} {f : α → Option z_A} (hf : ∀ v, o = some v → z_am h (f v)) : z_am h (o.bind f) := fun q e => by
  obtain ⟨v, h1, h2⟩ := z_x_bind e
  exact hf v h1 q h2
theorem z_mI {r : Option Nat} {i x : Int32} (e : z_stI h r i x = some h') : h'.1 = h.1 ∧ h'.2.1 = h.2.1 := by
  unfold z_stI at e
  repeat' (first | (cases e; exact ⟨rfl, rfl⟩) | (cases e; done) | split at e)
theorem z_mB {r : Option Nat} {i x : Int32} (e : z_stB h r i x = some h') : h'.1 = h.1 ∧ h'.2.1 = h.2.1 := by
  unfold z_stB at e
  repeat' (first | (cases e; exact ⟨rfl, rfl⟩) | (cases e; done) | split at e)
theorem z_mR {r x : Option Nat} {i : Int32} (e : z_stR h r i x = some h') : h'.1 = h.1 ∧ h'.2.1 = h.2.1 := by
  unfold z_stR at e
  repeat' (first | (cases e; exact ⟨rfl, rfl⟩) | (cases e; done) | split at e)
theorem z_mpI {ty : Nat} {r : Option Nat} {ci k : Nat} {x : Int32} (e : z_pI ty h r ci k x = some h') : h'.1 = h.1 ∧ h'.2.1 = h.2.1 := by
  obtain ⟨a, fs, -, -, -, -, rfl⟩ := z_x_pI e
  exact ⟨rfl, rfl⟩
theorem z_mpR {r : Option Nat} {ci k : Nat} {x : Option Nat} (e : z_pR h r ci k x = some h') : h'.1 = h.1 ∧ h'.2.1 = h.2.1 := by
  obtain ⟨a, fs, -, -, -, rfl⟩ := z_x_pR e
  exact ⟨rfl, rfl⟩
set_option maxHeartbeats 4000000 in
theorem z_am_do (i : Instr) : z_am h (z_do y pc i L S h) := by
  cases i with
  | putfield n =>
    simp only [z_do]
    split
    · refine z_am_bind fun v _ => ?_
      split
      · refine z_am_bind fun h' e => ?_
        exact z_am_go (Nat.le_of_eq (z_mpI e).1.symm) (Nat.le_of_eq (z_mpI e).2.symm)
      · exact z_am_none
    · refine z_am_bind fun v _ => ?_
      split
      · refine z_am_bind fun h' e => ?_
        exact z_am_go (Nat.le_of_eq (z_mpR e).1.symm) (Nat.le_of_eq (z_mpR e).2.symm)
      · exact z_am_none
    · exact z_am_none
  | iastore =>
    simp only [z_do]
    split
    · refine z_am_bind fun h' e => ?_
      exact z_am_go (Nat.le_of_eq (z_mI e).1.symm) (Nat.le_of_eq (z_mI e).2.symm)
    · exact z_am_none
  | bastore =>
    simp only [z_do]
    split
    · refine z_am_bind fun h' e => ?_
      exact z_am_go (Nat.le_of_eq (z_mB e).1.symm) (Nat.le_of_eq (z_mB e).2.symm)
    · exact z_am_none
  | aastore =>
    simp only [z_do]
    split
    · refine z_am_bind fun h' e => ?_
      exact z_am_go (Nat.le_of_eq (z_mR e).1.symm) (Nat.le_of_eq (z_mR e).2.symm)
    · exact z_am_none
  | new n =>
    simp only [z_do]
    refine z_am_bind fun ci _ => ?_
    exact z_am_go (Nat.le_succ _) (Nat.le_add_right _ _)
  | newarray n =>
    simp only [z_do]
    split
    · refine z_am_bind fun ci _ => ?_
      split
      · exact z_am_go (Nat.le_succ _) (Nat.le_add_right _ _)
      · exact z_am_none
    · exact z_am_none
  | anewarray n =>
    simp only [z_do]
    split
    · refine z_am_bind fun ci _ => ?_
      split
      · exact z_am_go (Nat.le_succ _) (Nat.le_add_right _ _)
      · exact z_am_none
    · exact z_am_none
  | _ =>
    simp only [z_do, z_bin, z_div, z_una, z_shl64, z_bin64, z_stl, z_br, z_jmp]
    repeat' (first | exact z_am_none | exact z_am_id | exact z_am_call | (refine z_am_bind fun _ _ => ?_) | split)
theorem z_mono : ∀ (n d y pc : Nat) (L : z_L) (S : List z_V) (h : z_H) (v : Option z_V) (h' : z_H), z_run n d y pc L S h = some (v, h') → h.1 ≤ h'.1 ∧ h.2.1 ≤ h'.2.1 := by
  intro n
  induction n with
  | zero => intro d y pc L S h v h' e; cases e
  | succ n ih =>
    intro d y pc L S h v h' e
    unfold z_run at e
    split at e
    case h_1 => cases e
    case h_2 q hq =>
      obtain ⟨qi, -, h2⟩ := z_x_bind hq
      have h1 := z_am_do qi.1 q h2
      have h3 := ih _ _ _ _ _ _ _ _ e
      omega
    case h_3 q hq =>
      split at e
      case h_1 => cases e
      case h_2 d' hd =>
        split at e
        case isFalse => cases e
        case isTrue =>
          split at e
          case h_1 => cases e
          case h_2 r hr =>
            have h1 := ih _ _ _ _ _ _ r.1 r.2 hr
            have h3 := ih _ _ _ _ _ _ _ _ e
            omega
    case h_4 =>
      cases e
      exact ⟨Nat.le_refl _, Nat.le_refl _⟩
end ZM
