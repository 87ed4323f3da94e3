/-! what a run of the small machine comes to, as a value; and how it unfolds, instruction by instruction -/
section ZB
theorem z_run_succ : ∀ (n d y pc : Nat) (L : z_L) (S : List z_V) (h : z_H) (r : z_R), z_run n d y pc L S h = some r → z_run (n + 1) d y pc L S h = some r := by
  intro n
  induction n with
  | zero => intro d y pc L S h r e; cases e
  | succ n ih =>
    intro d y pc L S h r e
    unfold z_run at e ⊢
    split at e
    case h_1 => cases e
    case h_2 q hq => exact ih _ _ _ _ _ _ _ e
    case h_3 q hq =>
      split at e
      case h_1 => cases e
      case h_2 d' hd =>
        split at e
        case isFalse => cases e
        case isTrue hs =>
          simp only [hs, if_true]
          split at e
          case h_1 => cases e
          case h_2 r' hr =>
            rw [ih _ _ _ _ _ _ _ hr]
            exact ih _ _ _ _ _ _ _ e
    case h_4 v hq => exact e
theorem z_run_le {n m d y pc : Nat} {L : z_L} {S : List z_V} {h : z_H} {r : z_R} (e : z_run n d y pc L S h = some r) (hm : n ≤ m) : z_run m d y pc L S h = some r := by
  induction hm with
  | refl => exact e
  | step _ ih => exact z_run_succ _ _ _ _ _ _ _ _ ih
def z_ev (d y pc : Nat) (L : z_L) (S : List z_V) (h : z_H) (r : z_R) : Prop := ∃ n, z_run n d y pc L S h = some r
theorem z_ev_one {d y pc : Nat} {L : z_L} {S : List z_V} {h : z_H} {r r' : z_R} (a : z_ev d y pc L S h r) (b : z_ev d y pc L S h r') : r = r' := by
  obtain ⟨n, a⟩ := a
  obtain ⟨m, b⟩ := b
  have h1 := z_run_le a (Nat.le_max_left n m)
  have h2 := z_run_le b (Nat.le_max_right n m)
  exact Option.some.inj (h1.symm.trans h2)
theorem z_big_ex (d y pc : Nat) (L : z_L) (S : List z_V) (h : z_H) : ∃ o : Option z_R, ∀ r, o = some r ↔ z_ev d y pc L S h r := by
  by_cases hr : ∃ r, z_ev d y pc L S h r
  · obtain ⟨r, hr⟩ := hr
    exact ⟨some r, fun r' => ⟨fun e => by cases e; exact hr, fun e => by rw [z_ev_one hr e]⟩⟩
  · exact ⟨none, fun r => ⟨fun e => (by cases e), fun e => absurd ⟨r, e⟩ hr⟩⟩
noncomputable def z_big (d y pc : Nat) (L : z_L) (S : List z_V) (h : z_H) : Option z_R := Classical.choose (z_big_ex d y pc L S h)
theorem z_big_iff {d y pc : Nat} {L : z_L} {S : List z_V} {h : z_H} {r : z_R} : z_big d y pc L S h = some r ↔ z_ev d y pc L S h r := Classical.choose_spec (z_big_ex d y pc L S h) r
theorem z_opt {α : Type} {a b : Option α} (h1 : ∀ r, a = some r → b = some r) (h2 : ∀ r, b = some r → a = some r) : a = b := by
  cases a with
  | none =>
    cases b with
    | none => rfl
    | some r => exact h2 r rfl
  | some r => exact (h1 r rfl).symm
/-- an instruction, done from here -/
noncomputable def z_on (d y : Nat) (o : Option z_A) (h : z_H) : Option z_R := match o with
  | none => none
  | some (.inl q) => z_big d y q.1 q.2.1 q.2.2.1 q.2.2.2
  | some (.inr (.inl q)) => (z_nd d q.1).bind fun d' => if (z_slots q.2.1).length ≤ z_mls.getD q.1 0 then (z_big d' q.1 0 (z_ent q.1 q.2.1) [] h).bind fun r => z_big d y q.2.2.1 q.2.2.2.1 (r.1.toList ++ q.2.2.2.2) r.2 else none
  | some (.inr (.inr v)) => some (v, h)
theorem z_big_eq (d y pc : Nat) (L : z_L) (S : List z_V) (h : z_H) : z_big d y pc L S h = z_on d y (z_act y pc L S h) h := by
  apply z_opt
  · intro r hr
    obtain ⟨n, hn⟩ := z_big_iff.mp hr
    cases n with
    | zero => cases hn
    | succ n =>
      unfold z_run at hn
      split at hn
      case h_1 => cases hn
      case h_2 q hq => rw [hq]; exact z_big_iff.mpr ⟨n, hn⟩
      case h_3 q hq =>
        rw [hq]
        split at hn
        case h_1 => cases hn
        case h_2 d' hd =>
          split at hn
          case isFalse => cases hn
          case isTrue hs =>
            split at hn
            case h_1 => cases hn
            case h_2 r' hr' =>
              show (z_nd d q.1).bind _ = _
              rw [hd]
              show (if _ then _ else _) = _
              rw [if_pos hs, z_big_iff.mpr ⟨n, hr'⟩]
              exact z_big_iff.mpr ⟨n, hn⟩
      case h_4 v hq => rw [hq]; exact hn
  · intro r hr
    refine z_big_iff.mpr ?_
    unfold z_on at hr
    split at hr
    case h_1 => cases hr
    case h_2 q hq =>
      obtain ⟨n, hn⟩ := z_big_iff.mp hr
      refine ⟨n + 1, ?_⟩
      unfold z_run
      rw [hq]
      exact hn
    case h_3 q hq =>
      cases hd : z_nd d q.1 with
      | none => rw [hd] at hr; cases hr
      | some d' =>
        rw [hd] at hr
        replace hr : (if (z_slots q.2.1).length ≤ z_mls.getD q.1 0 then (z_big d' q.1 0 (z_ent q.1 q.2.1) [] h).bind fun r => z_big d y q.2.2.1 q.2.2.2.1 (r.1.toList ++ q.2.2.2.2) r.2 else none) = some r := hr
        split at hr
        case isFalse => cases hr
        case isTrue hs =>
          cases hb : z_big d' q.1 0 (z_ent q.1 q.2.1) [] h with
          | none => rw [hb] at hr; cases hr
          | some r' =>
            rw [hb] at hr
            obtain ⟨n, hn⟩ := z_big_iff.mp hb
            obtain ⟨m, hm⟩ := z_big_iff.mp (show z_big d y q.2.2.1 q.2.2.2.1 (r'.1.toList ++ q.2.2.2.2) r'.2 = some r from hr)
            refine ⟨max n m + 1, ?_⟩
            unfold z_run
            rw [hq]
            simp only [hd, hs, if_true]
            rw [z_run_le hn (Nat.le_max_left n m)]
            exact z_run_le hm (Nat.le_max_right n m)
    case h_4 v hq =>
      refine ⟨1, ?_⟩
      unfold z_run
      rw [hq]
      exact hr
/-- ends: of an int, of nothing, of a reference -/
def z_rI (r : z_R) : Option (Int32 × z_H) := match r.1 with | some (.inl x) => some (x, r.2) | _ => none
def z_rV (r : z_R) : Option z_H := match r.1 with | none => some r.2 | _ => none
def z_rR (r : z_R) : Option (Option Nat × z_H) := match r.1 with | some (.inr (.inr x)) => some (x, r.2) | _ => none
noncomputable def z_bg {α : Type} (κ : z_R → Option α) (d y pc : Nat) (L : z_L) (S : List z_V) (h : z_H) : Option α := (z_big d y pc L S h).bind κ
noncomputable def z_st {α : Type} (κ : z_R → Option α) (d y : Nat) (o : Option z_A) (h : z_H) : Option α := (z_on d y o h).bind κ
/-- calls -/
noncomputable def z_cI (d y : Nat) (as : List z_V) (h : z_H) : Option (Int32 × z_H) := z_bg z_rI d y 0 (z_ent y as) [] h
noncomputable def z_cV (d y : Nat) (as : List z_V) (h : z_H) : Option z_H := z_bg z_rV d y 0 (z_ent y as) [] h
noncomputable def z_cR (d y : Nat) (as : List z_V) (h : z_H) : Option (Option Nat × z_H) := z_bg z_rR d y 0 (z_ent y as) [] h
def z_inX (y pc : Nat) : Option (Instr × Option (List Bool)) := (z_ins y pc).map fun q => (q.1, z_lab y pc)
variable {α : Type} {κ : z_R → Option α} {d y pc pc' : Nat} {L : z_L} {S : List z_V} {h : z_H} {i : Instr}
theorem B_at {m : List Bool} (hi : z_inX y pc = some (i, some m)) (hz : z_msk m L = L) : z_bg κ d y pc L S h = z_st κ d y (z_do y pc i L S h) h := by
  unfold z_bg z_st
  rw [z_big_eq]
  unfold z_inX at hi
  cases hq : z_ins y pc with
  | none => rw [hq] at hi; cases hi
  | some q =>
    rw [hq] at hi
    have h1 : (q.1, z_lab y pc) = (i, some m) := Option.some.inj hi
    have h2 := (Prod.mk.inj h1).1
    have h3 := (Prod.mk.inj h1).2
    unfold z_act z_kl
    rw [hq, h3]
    show (z_on d y (z_do y pc q.1 (z_msk m L) S h) h).bind κ = _
    rw [h2, hz]
theorem B_no (hi : z_inX y pc = some (i, none)) : z_bg κ d y pc L S h = z_st κ d y (z_do y pc i L S h) h := by
  unfold z_bg z_st
  rw [z_big_eq]
  unfold z_inX at hi
  cases hq : z_ins y pc with
  | none => rw [hq] at hi; cases hi
  | some q =>
    rw [hq] at hi
    have h1 : (q.1, z_lab y pc) = (i, none) := Option.some.inj hi
    have h2 := (Prod.mk.inj h1).1
    have h3 := (Prod.mk.inj h1).2
    unfold z_act z_kl
    rw [hq, h3]
    show (z_on d y (z_do y pc q.1 L S h) h).bind κ = _
    rw [h2]
/-- into a label -/
theorem B_to {m : List Bool} {L' : z_L} (hl : z_lab y pc = some m) (hz : z_msk m L = L') (hz' : z_msk m L' = L') : z_bg κ d y pc L S h = z_bg κ d y pc L' S h := by
  unfold z_bg
  rw [z_big_eq, z_big_eq d y pc L']
  unfold z_act z_kl
  rw [hl]
  simp only
  rw [hz, hz']
theorem S_go {L' : z_L} {S' : List z_V} {h' : z_H} (e : z_do y pc i L S h = z_go pc' L' S' h') : z_st κ d y (z_do y pc i L S h) h = z_bg κ d y pc' L' S' h' := by rw [e]; rfl
theorem S_b {β : Type} {o : Option β} {f : β → Nat × z_L × List z_V × z_H} (e : z_do y pc i L S h = o.bind fun x => some (.inl (f x))) : z_st κ d y (z_do y pc i L S h) h = o.bind fun x => z_bg κ d y (f x).1 (f x).2.1 (f x).2.2.1 (f x).2.2.2 := by
  rw [e]
  cases o with
  | none => rfl
  | some x => rfl
theorem S_br {c : Prop} [Decidable c] {p1 p2 : Nat} {S' : List z_V} (e : z_do y pc i L S h = if c then z_go p1 L S' h else z_go p2 L S' h) : z_st κ d y (z_do y pc i L S h) h = if c then z_bg κ d y p1 L S' h else z_bg κ d y p2 L S' h := by
  rw [e]
  by_cases hc : c
  · rw [if_pos hc, if_pos hc]; rfl
  · rw [if_neg hc, if_neg hc]; rfl
theorem z_bcg {α β : Type} {o : Option β} {f g : β → Option α} (hf : ∀ x, f x = g x) : o.bind f = o.bind g := by
  cases o with
  | none => rfl
  | some x => exact hf x
theorem z_icg {α : Type} {c : Prop} [Decidable c] {a a' b b' : α} (h1 : c → a = a') (h2 : ¬ c → b = b') : (if c then a else b) = if c then a' else b' := by
  by_cases hc : c
  · rw [if_pos hc, if_pos hc]; exact h1 hc
  · rw [if_neg hc, if_neg hc]; exact h2 hc
end ZB
