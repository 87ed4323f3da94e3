section ZUB
/-! what is given is never written -/
def z_ak (h h' : z_H) : Prop := ∀ n f, h.2.2 0 = .inl (10, n, f) → 0 < h.1 → h'.2.2 0 = .inl (10, n, f) ∧ 0 < h'.1
theorem z_ak_id {h : z_H} : z_ak h h := fun _ _ e p => ⟨e, p⟩
theorem z_ak_tr {h h' h2 : z_H} (a : z_ak h h') (b : z_ak h' h2) : z_ak h h2 := fun n f e p => b n f (a n f e p).1 (a n f e p).2
theorem z_ak_put {h : z_H} {a : Nat} {x : z_C} (hne : ∀ n f, h.2.2 a ≠ .inl (10, n, f)) : z_ak h (z_put h a x) := fun n f e p => by
  refine ⟨?_, p⟩
  show z_upd h.2.2 a x 0 = _
  unfold z_upd
  by_cases c : 0 = a
  · rw [← c] at hne
    exact absurd e (hne n f)
  · rw [if_neg c]
    exact e
theorem z_ak_new {h : z_H} {s : Nat} {x : z_C} : z_ak h (h.1 + 1, s, z_upd h.2.2 h.1 x) := fun n f e p => by
  refine ⟨?_, Nat.succ_pos _⟩
  show z_upd h.2.2 h.1 x 0 = _
  unfold z_upd
  rw [if_neg (by omega)]
  exact e
def z_am2 (h : z_H) (o : Option z_A) : Prop := ∀ q, o = some (.inl q) → z_ak h q.2.2.2
variable {y pc : Nat} {L : z_L} {S : List z_V} {h h' : z_H}
theorem z_am2_none : z_am2 h none := fun _ e => by cases e
theorem z_am2_call {x : (Nat × List z_V × Nat × z_L × List z_V) ⊕ Option z_V} : z_am2 h (some (.inr x)) := fun _ e => by cases e
theorem z_am2_go (h1 : z_ak h h') : z_am2 h (z_go pc L S h') := fun q e => by have := z_x_go e; subst this; exact h1
theorem z_am2_id : z_am2 h (z_go pc L S h) := z_am2_go z_ak_id
theorem z_am2_bind {α : Type} {o : Option α} {f : α → Option z_A} (hf : ∀ v, o = some v → z_am2 h (f v)) : z_am2 h (o.bind f) := fun q e => by
  obtain ⟨v, h1, h2⟩ := z_x_bind e
  exact hf v h1 q h2
theorem z_kI {r : Option Nat} {i x : Int32} (e : z_stI h r i x = some h') : z_ak h h' := by
  unfold z_stI at e
  split at e
  · cases e
  · split at e
    · rename_i t n f hq
      split at e
      · rename_i hc
        cases e
        exact z_ak_put (fun n f w => by rw [hq] at w; have := congrArg Prod.fst (Sum.inl.inj w); have h1 := hc.1; simp only at this; omega)
      · cases e
    · cases e
theorem z_kB {r : Option Nat} {i x : Int32} (e : z_stB h r i x = some h') : z_ak h h' := by
  unfold z_stB at e
  split at e
  · cases e
  · split at e
    · rename_i t n f hq
      split at e
      · rename_i hc
        cases e
        exact z_ak_put (fun n f w => by rw [hq] at w; have := congrArg Prod.fst (Sum.inl.inj w); have h1 := hc.1; simp only at this; omega)
      · split at e
        · rename_i hc
          cases e
          exact z_ak_put (fun n f w => by rw [hq] at w; have := congrArg Prod.fst (Sum.inl.inj w); have h1 := hc.1; simp only at this; omega)
        · cases e
    · cases e
theorem z_kR {r x : Option Nat} {i : Int32} (e : z_stR h r i x = some h') : z_ak h h' := by
  unfold z_stR at e
  split at e
  · cases e
  · split at e
    · cases e
    · split at e
      · rename_i hq
        split at e
        · split at e
          · cases e
            exact z_ak_put (fun n f w => by rw [hq] at w; cases w)
          · cases e
        · cases e
      · cases e
theorem z_kpI {ty : Nat} {r : Option Nat} {ci k : Nat} {x : Int32} (e : z_pI ty h r ci k x = some h') : z_ak h h' := by
  obtain ⟨a, fs, -, hq, -, -, rfl⟩ := z_x_pI e
  exact z_ak_put (fun n f w => by rw [hq] at w; cases w)
theorem z_kpR {r : Option Nat} {ci k : Nat} {x : Option Nat} (e : z_pR h r ci k x = some h') : z_ak h h' := by
  obtain ⟨a, fs, -, hq, -, rfl⟩ := z_x_pR e
  exact z_ak_put (fun n f w => by rw [hq] at w; cases w)
set_option maxHeartbeats 4000000 in
theorem z_am2_do (i : Instr) : z_am2 h (z_do y pc i L S h) := by
  cases i with
  | putfield n =>
    simp only [z_do]
    split
    · refine z_am2_bind fun v _ => ?_
      split
      · refine z_am2_bind fun h' e => ?_
        exact z_am2_go (z_kpI e)
      · exact z_am2_none
    · refine z_am2_bind fun v _ => ?_
      split
      · refine z_am2_bind fun h' e => ?_
        exact z_am2_go (z_kpR e)
      · exact z_am2_none
    · exact z_am2_none
  | iastore =>
    simp only [z_do]
    split
    · refine z_am2_bind fun h' e => ?_
      exact z_am2_go (z_kI e)
    · exact z_am2_none
  | bastore =>
    simp only [z_do]
    split
    · refine z_am2_bind fun h' e => ?_
      exact z_am2_go (z_kB e)
    · exact z_am2_none
  | aastore =>
    simp only [z_do]
    split
    · refine z_am2_bind fun h' e => ?_
      exact z_am2_go (z_kR e)
    · exact z_am2_none
  | new n =>
    simp only [z_do]
    refine z_am2_bind fun ci _ => ?_
    exact z_am2_go z_ak_new
  | newarray n =>
    simp only [z_do]
    split
    · refine z_am2_bind fun ci _ => ?_
      split
      · exact z_am2_go z_ak_new
      · exact z_am2_none
    · exact z_am2_none
  | anewarray n =>
    simp only [z_do]
    split
    · refine z_am2_bind fun ci _ => ?_
      split
      · exact z_am2_go z_ak_new
      · exact z_am2_none
    · exact z_am2_none
  | _ =>
    simp only [z_do, z_bin, z_div, z_una, z_shl64, z_bin64, z_stl, z_br, z_jmp]
    repeat' (first | exact z_am2_none | exact z_am2_id | exact z_am2_call | (refine z_am2_bind fun _ _ => ?_) | split)
theorem z_keep : ∀ (n d y pc : Nat) (L : z_L) (S : List z_V) (h : z_H) (v : Option z_V) (h' : z_H), z_run n d y pc L S h = some (v, h') → z_ak h h' := by
  intro n
  induction n with
  | zero => intro d y pc L S h v h' e; cases e
  | succ n ih =>
    intro d y pc L S h v h' e
    unfold z_run at e
    split at e
    case h_1 => cases e
    case h_2 q hq =>
      obtain ⟨qi, -, h2⟩ := z_x_bind hq
      exact z_ak_tr (z_am2_do qi.1 q h2) (ih _ _ _ _ _ _ _ _ e)
    case h_3 q hq =>
      split at e
      case h_1 => cases e
      case h_2 d' hd =>
        split at e
        case isFalse => cases e
        case isTrue =>
          split at e
          case h_1 => cases e
          case h_2 r hr => exact z_ak_tr (ih _ _ _ _ _ _ r.1 r.2 hr) (ih _ _ _ _ _ _ _ _ e)
    case h_4 =>
      cases e
      exact z_ak_id
theorem z_keepI {d y : Nat} {as : List z_V} {h h' : z_H} {r : Int32} (e : z_cI d y as h = some (r, h')) : z_ak h h' := by
  unfold z_cI z_bg at e
  cases hb : z_big d y 0 (z_ent y as) [] h with
  | none => rw [hb] at e; cases e
  | some q =>
    rw [hb] at e
    obtain ⟨n, hn⟩ := z_big_iff.mp hb
    have := z_keep _ _ _ _ _ _ _ q.1 q.2 hn
    have e : z_rI q = some (r, h') := e
    unfold z_rI at e
    split at e
    · cases e; exact this
    · cases e
end ZUB
section ZUC
variable {L : Nat} {Dh D' : Nat → z_Sh} {S S1 : Nat → Nat → Int32} {R R' : Nat → Nat → Option Nat} {nx sl nx' sl' : Nat}
variable {c0 kq p : Nat} {s0 : Nat → Int32}
theorem y_keep {d y : Nat} {as : List z_V} {r : Int32} (h87 : 87 ≤ nx) (e : z_cI d y as (z_mk L Dh S R nx sl) = some (r, z_mk L D' S1 R' nx' sl')) : S1 0 = S 0 := by
  have a : (z_mk L Dh S R nx sl).2.2 0 = .inl (10, L, S 0) := rfl
  have b : (z_mk L D' S1 R' nx' sl').2.2 0 = .inl (10, L, S1 0) := rfl
  have h := (z_keepI e L (S 0) a (show 0 < nx by omega)).1
  rw [b] at h
  exact congrArg (fun q => q.2.2) (Sum.inl.inj h)
theorem y_pkk (p k : Nat) : nI p + nI k = nI (p + k) := (Int32.ofNat_add p k).symm
theorem y_k0 (hp : p < L) (hL : L ≤ 3584) : z_ldI (z_mk L Dh S R nx sl) (some 0) (nI p) = some (S 0 p) := by
  rw [m_ldI (t := 10) (n := L) rfl (Or.inr rfl) (z_in_nI hp (by omega)), z_cl (by omega)]
theorem y_k1 (hp : p + 6 < L) (hL : L ≤ 3584) : z_ldI (z_mk L Dh S R nx sl) (some 0) (nI p + 1) = some (S 0 (p + 1)) := by
  rw [show nI p + 1 = nI (p + 1) from y_pkk p 1]
  exact y_k0 (by omega) hL
theorem y_k2 (hp : p + 6 < L) (hL : L ≤ 3584) : z_ldI (z_mk L Dh S R nx sl) (some 0) (nI p + 2) = some (S 0 (p + 2)) := by
  rw [show nI p + 2 = nI (p + 2) from y_pkk p 2]
  exact y_k0 (by omega) hL
theorem y_k3 (hp : p + 6 < L) (hL : L ≤ 3584) : z_ldI (z_mk L Dh S R nx sl) (some 0) (nI p + 3) = some (S 0 (p + 3)) := by
  rw [show nI p + 3 = nI (p + 3) from y_pkk p 3]
  exact y_k0 (by omega) hL
theorem y_k4 (hp : p + 6 < L) (hL : L ≤ 3584) : z_ldI (z_mk L Dh S R nx sl) (some 0) (nI p + 4) = some (S 0 (p + 4)) := by
  rw [show nI p + 4 = nI (p + 4) from y_pkk p 4]
  exact y_k0 (by omega) hL
theorem y_k5 (hp : p + 6 < L) (hL : L ≤ 3584) : z_ldI (z_mk L Dh S R nx sl) (some 0) (nI p + 5) = some (S 0 (p + 5)) := by
  rw [show nI p + 5 = nI (p + 5) from y_pkk p 5]
  exact y_k0 (by omega) hL
theorem y_k6 (hp : p + 6 < L) (hL : L ≤ 3584) : z_ldI (z_mk L Dh S R nx sl) (some 0) (nI p + 6) = some (S 0 (p + 6)) := by
  rw [show nI p + 6 = nI (p + 6) from y_pkk p 6]
  exact y_k0 (by omega) hL
theorem y_n0 (hL : L ≤ 3584) : z_len (z_mk L Dh S R nx sl) (some 0) = some (nI L) := m_len rfl (by decide)
theorem y_o6 : z_ob (z_mk L Dh S R nx sl) (some 6) 10 = some () := m_ob rfl
theorem y_o52 : z_ob (z_mk L Dh S R nx sl) (some 52) 11 = some () := m_ob rfl
/-- it goes on well from the next place -/
def y_on (L c0 p kq : Nat) (s0 : Nat → Int32) : Prop := ∀ Dh S R nx sl, I_all c0 s0 (kq + 1) Dh S R nx sl → ∃ h' : z_H, L233_18 (some 0) (some 6) (some 52) (nI p + 7) (z_mk L Dh S R nx sl) = some (1, h') ∧ h'.1 ≤ 87 + 6 * 512 ∧ h'.2.1 ≤ c0 + 700 * 512
theorem U_0 (hL : L ≤ 3584) (hp : p + 6 < L) (hk : kq < 90000) (hI : I_all c0 s0 kq Dh S R nx sl) (hon : y_on L c0 p kq s0) : ∃ h' : z_H, L233_33 (some 0) (some 6) (some 52) (nI p) 0 (z_mk L Dh S R nx sl) = some (1, h') ∧ h'.1 ≤ 87 + 6 * 512 ∧ h'.2.1 ≤ c0 + 700 * 512 := by
  have h87 := hI.2.2.2.1
  rw [E233_33_0 _ _ _ _ _ _ rfl]
  simp only [y_k1 hp hL, y_k2 hp hL, z_bs]
  by_cases c : S 0 (p + 2) = 0
  · rw [if_pos c, E233_231]
    obtain ⟨r, D', S1, S2, R', nx', sl', e1, e2, hQ⟩ := T_cover (L := L) hk hI (S 0 (p + 1)) (w := 0) (Or.inl rfl)
    have e0 := y_keep h87 e1
    have e1 : z_cI 4 81 [.inr (.inr (some 6)), .inl (S 0 (p + 1)), .inl 0] (z_mk L Dh S R nx sl) = _ := e1
    have e2 : z_cI 2 139 [.inr (.inr (some 52)), .inl (S 0 (p + 1)), .inl 0] (z_mk L D' S1 R' nx' sl') = _ := e2
    simp only [y_o6, z_bs, e1, y_k1 hp hL, y_k2 hp hL, y_o52, e0, e2, z_iT]
    rw [if_pos c]
    exact hon _ _ _ _ _ hQ
  · rw [if_neg c, E233_231]
    obtain ⟨r, D', S1, S2, R', nx', sl', e1, e2, hQ⟩ := T_cover (L := L) hk hI (S 0 (p + 1)) (w := 1) (Or.inr rfl)
    have e0 := y_keep h87 e1
    have e1 : z_cI 4 81 [.inr (.inr (some 6)), .inl (S 0 (p + 1)), .inl 1] (z_mk L Dh S R nx sl) = _ := e1
    have e2 : z_cI 2 139 [.inr (.inr (some 52)), .inl (S 0 (p + 1)), .inl 1] (z_mk L D' S1 R' nx' sl') = _ := e2
    simp only [y_o6, z_bs, e1, y_k1 hp hL, y_k2 hp hL, y_o52, e0, e2, z_iT]
    rw [if_neg c]
    exact hon _ _ _ _ _ hQ
theorem U_1 (hL : L ≤ 3584) (hp : p + 6 < L) (hk : kq < 90000) (hI : I_all c0 s0 kq Dh S R nx sl) (hon : y_on L c0 p kq s0) : ∃ h' : z_H, L233_33 (some 0) (some 6) (some 52) (nI p) 1 (z_mk L Dh S R nx sl) = some (1, h') ∧ h'.1 ≤ 87 + 6 * 512 ∧ h'.2.1 ≤ c0 + 700 * 512 := by
  have h87 := hI.2.2.2.1
  rw [E233_33_1 _ _ _ _ _ _ rfl]
  simp only [y_k1 hp hL, y_k2 hp hL, z_bs]
  by_cases c : S 0 (p + 2) = 0
  · rw [if_pos c, E233_280]
    obtain ⟨r, D', S1, S2, R', nx', sl', e1, e2, hQ⟩ := T_safe (L := L) hk hI (S 0 (p + 1)) (w := 0) (Or.inl rfl)
    have e0 := y_keep h87 e1
    have e1 : z_cI 4 82 [.inr (.inr (some 6)), .inl (S 0 (p + 1)), .inl 0] (z_mk L Dh S R nx sl) = _ := e1
    have e2 : z_cI 2 140 [.inr (.inr (some 52)), .inl (S 0 (p + 1)), .inl 0] (z_mk L D' S1 R' nx' sl') = _ := e2
    simp only [y_o6, z_bs, e1, y_k1 hp hL, y_k2 hp hL, y_o52, e0, e2, z_iT]
    rw [if_pos c]
    exact hon _ _ _ _ _ hQ
  · rw [if_neg c, E233_280]
    obtain ⟨r, D', S1, S2, R', nx', sl', e1, e2, hQ⟩ := T_safe (L := L) hk hI (S 0 (p + 1)) (w := 1) (Or.inr rfl)
    have e0 := y_keep h87 e1
    have e1 : z_cI 4 82 [.inr (.inr (some 6)), .inl (S 0 (p + 1)), .inl 1] (z_mk L Dh S R nx sl) = _ := e1
    have e2 : z_cI 2 140 [.inr (.inr (some 52)), .inl (S 0 (p + 1)), .inl 1] (z_mk L D' S1 R' nx' sl') = _ := e2
    simp only [y_o6, z_bs, e1, y_k1 hp hL, y_k2 hp hL, y_o52, e0, e2, z_iT]
    rw [if_neg c]
    exact hon _ _ _ _ _ hQ
theorem U_2 (hL : L ≤ 3584) (hp : p + 6 < L) (hk : kq < 90000) (hI : I_all c0 s0 kq Dh S R nx sl) (hon : y_on L c0 p kq s0) : ∃ h' : z_H, L233_33 (some 0) (some 6) (some 52) (nI p) 2 (z_mk L Dh S R nx sl) = some (1, h') ∧ h'.1 ≤ 87 + 6 * 512 ∧ h'.2.1 ≤ c0 + 700 * 512 := by
  have h87 := hI.2.2.2.1
  rw [E233_33_2 _ _ _ _ _ _ rfl]
  obtain ⟨r, D', S1, S2, R', nx', sl', e1, e2, hQ⟩ := T_mover (L := L) hk hI (S 0 (p + 1)) (S 0 (p + 2)) (S 0 (p + 3)) (S 0 (p + 4)) (S 0 (p + 5))
  have e0 := y_keep h87 e1
  have e1 : z_cI 5 83 [.inr (.inr (some 6)), .inl (S 0 (p + 1)), .inl (S 0 (p + 2)), .inl (S 0 (p + 3)), .inl (S 0 (p + 4)), .inl (S 0 (p + 5))] (z_mk L Dh S R nx sl) = _ := e1
  have e2 : z_cI 2 141 [.inr (.inr (some 52)), .inl (S 0 (p + 1)), .inl (S 0 (p + 2)), .inl (S 0 (p + 3)), .inl (S 0 (p + 4)), .inl (S 0 (p + 5))] (z_mk L D' S1 R' nx' sl') = _ := e2
  simp only [y_k1 hp hL, y_k2 hp hL, y_k3 hp hL, y_k4 hp hL, y_k5 hp hL, y_o6, z_bs, e1, y_o52, e0, e2, z_iT]
  exact hon _ _ _ _ _ hQ
theorem U_3 (hL : L ≤ 3584) (hp : p + 6 < L) (hk : kq < 90000) (hI : I_all c0 s0 kq Dh S R nx sl) (hon : y_on L c0 p kq s0) : ∃ h' : z_H, L233_33 (some 0) (some 6) (some 52) (nI p) 3 (z_mk L Dh S R nx sl) = some (1, h') ∧ h'.1 ≤ 87 + 6 * 512 ∧ h'.2.1 ≤ c0 + 700 * 512 := by
  have h87 := hI.2.2.2.1
  rw [E233_33_3 _ _ _ _ _ _ rfl]
  obtain ⟨r, D', S1, S2, R', nx', sl', e1, e2, hQ⟩ := T_leg (L := L) hk hI (S 0 (p + 1)) (S 0 (p + 2)) (S 0 (p + 3)) (S 0 (p + 4)) (S 0 (p + 5))
  have e0 := y_keep h87 e1
  have e1 : z_cI 5 84 [.inr (.inr (some 6)), .inl (S 0 (p + 1)), .inl (S 0 (p + 2)), .inl (S 0 (p + 3)), .inl (S 0 (p + 4)), .inl (S 0 (p + 5))] (z_mk L Dh S R nx sl) = _ := e1
  have e2 : z_cI 3 142 [.inr (.inr (some 52)), .inl (S 0 (p + 1)), .inl (S 0 (p + 2)), .inl (S 0 (p + 3)), .inl (S 0 (p + 4)), .inl (S 0 (p + 5))] (z_mk L D' S1 R' nx' sl') = _ := e2
  simp only [y_k1 hp hL, y_k2 hp hL, y_k3 hp hL, y_k4 hp hL, y_k5 hp hL, y_o6, z_bs, e1, y_o52, e0, e2, z_iT]
  exact hon _ _ _ _ _ hQ
theorem U_4 (hL : L ≤ 3584) (hp : p + 6 < L) (hk : kq < 90000) (hI : I_all c0 s0 kq Dh S R nx sl) (hon : y_on L c0 p kq s0) : ∃ h' : z_H, L233_33 (some 0) (some 6) (some 52) (nI p) 4 (z_mk L Dh S R nx sl) = some (1, h') ∧ h'.1 ≤ 87 + 6 * 512 ∧ h'.2.1 ≤ c0 + 700 * 512 := by
  have h87 := hI.2.2.2.1
  rw [E233_33_4 _ _ _ _ _ _ rfl]
  obtain ⟨r, D', S1, S2, R', nx', sl', e1, e2, hQ⟩ := T_cue (L := L) hk hI (S 0 (p + 1)) (S 0 (p + 2)) (S 0 (p + 3))
  have e0 := y_keep h87 e1
  have e1 : z_cI 5 85 [.inr (.inr (some 6)), .inl (S 0 (p + 1)), .inl (S 0 (p + 2)), .inl (S 0 (p + 3))] (z_mk L Dh S R nx sl) = _ := e1
  have e2 : z_cI 2 143 [.inr (.inr (some 52)), .inl (S 0 (p + 1)), .inl (S 0 (p + 2)), .inl (S 0 (p + 3))] (z_mk L D' S1 R' nx' sl') = _ := e2
  simp only [y_k1 hp hL, y_k2 hp hL, y_k3 hp hL, y_o6, z_bs, e1, y_o52, e0, e2, z_iT]
  exact hon _ _ _ _ _ hQ
theorem U_5 (hL : L ≤ 3584) (hp : p + 6 < L) (hk : kq < 90000) (hI : I_all c0 s0 kq Dh S R nx sl) (hon : y_on L c0 p kq s0) : ∃ h' : z_H, L233_33 (some 0) (some 6) (some 52) (nI p) 5 (z_mk L Dh S R nx sl) = some (1, h') ∧ h'.1 ≤ 87 + 6 * 512 ∧ h'.2.1 ≤ c0 + 700 * 512 := by
  have h87 := hI.2.2.2.1
  rw [E233_33_5 _ _ _ _ _ _ rfl]
  obtain ⟨r, D', S1, S2, R', nx', sl', e1, e2, hQ⟩ := T_place (L := L) hk hI (S 0 (p + 1)) (S 0 (p + 2)) (S 0 (p + 3))
  have e0 := y_keep h87 e1
  have e1 : z_cI 3 86 [.inr (.inr (some 6)), .inl (S 0 (p + 1)), .inl (S 0 (p + 2)), .inl (S 0 (p + 3))] (z_mk L Dh S R nx sl) = _ := e1
  have e2 : z_cI 4 145 [.inr (.inr (some 52)), .inl (S 0 (p + 1)), .inl (S 0 (p + 2)), .inl (S 0 (p + 3))] (z_mk L D' S1 R' nx' sl') = _ := e2
  simp only [y_k1 hp hL, y_k2 hp hL, y_k3 hp hL, y_o6, z_bs, e1, y_o52, e0, e2, z_iT]
  exact hon _ _ _ _ _ hQ
theorem U_6 (hL : L ≤ 3584) (hp : p + 6 < L) (hk : kq < 90000) (hI : I_all c0 s0 kq Dh S R nx sl) (hon : y_on L c0 p kq s0) : ∃ h' : z_H, L233_33 (some 0) (some 6) (some 52) (nI p) 6 (z_mk L Dh S R nx sl) = some (1, h') ∧ h'.1 ≤ 87 + 6 * 512 ∧ h'.2.1 ≤ c0 + 700 * 512 := by
  have h87 := hI.2.2.2.1
  rw [E233_33_6 _ _ _ _ _ _ rfl]
  obtain ⟨r, D', S1, S2, R', nx', sl', e1, e2, hQ⟩ := T_hit (L := L) hk hI (S 0 (p + 1)) (S 0 (p + 2))
  have e0 := y_keep h87 e1
  have e1 : z_cI 6 87 [.inr (.inr (some 6)), .inl (S 0 (p + 1)), .inl (S 0 (p + 2))] (z_mk L Dh S R nx sl) = _ := e1
  have e2 : z_cI 6 148 [.inr (.inr (some 52)), .inl (S 0 (p + 1)), .inl (S 0 (p + 2))] (z_mk L D' S1 R' nx' sl') = _ := e2
  simp only [y_k1 hp hL, y_k2 hp hL, y_o6, z_bs, e1, y_o52, e0, e2, z_iT]
  exact hon _ _ _ _ _ hQ
theorem U_7 (hL : L ≤ 3584) (hp : p + 6 < L) (hk : kq < 90000) (hI : I_all c0 s0 kq Dh S R nx sl) (hon : y_on L c0 p kq s0) : ∃ h' : z_H, L233_33 (some 0) (some 6) (some 52) (nI p) 7 (z_mk L Dh S R nx sl) = some (1, h') ∧ h'.1 ≤ 87 + 6 * 512 ∧ h'.2.1 ≤ c0 + 700 * 512 := by
  have h87 := hI.2.2.2.1
  rw [E233_33_7 _ _ _ _ _ _ rfl]
  obtain ⟨r, D', S1, S2, R', nx', sl', e1, e2, hQ⟩ := T_firstHit (L := L) hk hI (S 0 (p + 1))
  have e0 := y_keep h87 e1
  have e1 : z_cI 7 88 [.inr (.inr (some 6)), .inl (S 0 (p + 1))] (z_mk L Dh S R nx sl) = _ := e1
  have e2 : z_cI 7 150 [.inr (.inr (some 52)), .inl (S 0 (p + 1))] (z_mk L D' S1 R' nx' sl') = _ := e2
  simp only [y_k1 hp hL, y_o6, z_bs, e1, y_o52, e0, e2, z_iT]
  exact hon _ _ _ _ _ hQ
theorem U_8 (hL : L ≤ 3584) (hp : p + 6 < L) (hk : kq < 90000) (hI : I_all c0 s0 kq Dh S R nx sl) (hon : y_on L c0 p kq s0) : ∃ h' : z_H, L233_33 (some 0) (some 6) (some 52) (nI p) 8 (z_mk L Dh S R nx sl) = some (1, h') ∧ h'.1 ≤ 87 + 6 * 512 ∧ h'.2.1 ≤ c0 + 700 * 512 := by
  have h87 := hI.2.2.2.1
  rw [E233_33_8 _ _ _ _ _ _ rfl]
  obtain ⟨r, D', S1, S2, R', nx', sl', e1, e2, hQ⟩ := T_stride (L := L) hk hI (S 0 (p + 1))
  have e0 := y_keep h87 e1
  have e1 : z_cI 2 89 [.inr (.inr (some 6)), .inl (S 0 (p + 1))] (z_mk L Dh S R nx sl) = _ := e1
  have e2 : z_cI 2 151 [.inr (.inr (some 52)), .inl (S 0 (p + 1))] (z_mk L D' S1 R' nx' sl') = _ := e2
  simp only [y_k1 hp hL, y_o6, z_bs, e1, y_o52, e0, e2, z_iT]
  exact hon _ _ _ _ _ hQ
theorem U_9 (hL : L ≤ 3584) (hp : p + 6 < L) (hk : kq < 90000) (hI : I_all c0 s0 kq Dh S R nx sl) (hon : y_on L c0 p kq s0) : ∃ h' : z_H, L233_33 (some 0) (some 6) (some 52) (nI p) 9 (z_mk L Dh S R nx sl) = some (1, h') ∧ h'.1 ≤ 87 + 6 * 512 ∧ h'.2.1 ≤ c0 + 700 * 512 := by
  have h87 := hI.2.2.2.1
  rw [E233_33_9 _ _ _ _ _ _ rfl]
  obtain ⟨r, D', S1, S2, R', nx', sl', e1, e2, hQ⟩ := T_danger (L := L) hk hI (S 0 (p + 1)) (S 0 (p + 2)) (S 0 (p + 3))
  have e0 := y_keep h87 e1
  have e1 : z_cI 5 90 [.inr (.inr (some 6)), .inl (S 0 (p + 1)), .inl (S 0 (p + 2)), .inl (S 0 (p + 3))] (z_mk L Dh S R nx sl) = _ := e1
  have e2 : z_cI 5 154 [.inr (.inr (some 52)), .inl (S 0 (p + 1)), .inl (S 0 (p + 2)), .inl (S 0 (p + 3))] (z_mk L D' S1 R' nx' sl') = _ := e2
  simp only [y_k1 hp hL, y_k2 hp hL, y_k3 hp hL, y_o6, z_bs, e1, y_o52, e0, e2, z_iT]
  exact hon _ _ _ _ _ hQ
theorem U_10 (hL : L ≤ 3584) (hp : p + 6 < L) (hk : kq < 90000) (hI : I_all c0 s0 kq Dh S R nx sl) (hon : y_on L c0 p kq s0) : ∃ h' : z_H, L233_33 (some 0) (some 6) (some 52) (nI p) 10 (z_mk L Dh S R nx sl) = some (1, h') ∧ h'.1 ≤ 87 + 6 * 512 ∧ h'.2.1 ≤ c0 + 700 * 512 := by
  have h87 := hI.2.2.2.1
  rw [E233_33_10 _ _ _ _ _ _ rfl]
  obtain ⟨r, D', S1, S2, R', nx', sl', e1, e2, hQ⟩ := T_abort (L := L) hk hI (S 0 (p + 1))
  have e0 := y_keep h87 e1
  have e1 : z_cI 7 91 [.inr (.inr (some 6)), .inl (S 0 (p + 1))] (z_mk L Dh S R nx sl) = _ := e1
  have e2 : z_cI 8 159 [.inr (.inr (some 52)), .inl (S 0 (p + 1))] (z_mk L D' S1 R' nx' sl') = _ := e2
  simp only [y_k1 hp hL, y_o6, z_bs, e1, y_o52, e0, e2, z_iT]
  exact hon _ _ _ _ _ hQ
theorem U_11 (hL : L ≤ 3584) (hp : p + 6 < L) (hk : kq < 90000) (hI : I_all c0 s0 kq Dh S R nx sl) (hon : y_on L c0 p kq s0) : ∃ h' : z_H, L233_33 (some 0) (some 6) (some 52) (nI p) 11 (z_mk L Dh S R nx sl) = some (1, h') ∧ h'.1 ≤ 87 + 6 * 512 ∧ h'.2.1 ≤ c0 + 700 * 512 := by
  have h87 := hI.2.2.2.1
  rw [E233_33_11 _ _ _ _ _ _ rfl]
  obtain ⟨r, D', S1, S2, R', nx', sl', e1, e2, hQ⟩ := T_saved (L := L) hk hI (S 0 (p + 1)) (S 0 (p + 2))
  have e0 := y_keep h87 e1
  have e1 : z_cI 6 92 [.inr (.inr (some 6)), .inl (S 0 (p + 1)), .inl (S 0 (p + 2))] (z_mk L Dh S R nx sl) = _ := e1
  have e2 : z_cI 7 160 [.inr (.inr (some 52)), .inl (S 0 (p + 1)), .inl (S 0 (p + 2))] (z_mk L D' S1 R' nx' sl') = _ := e2
  simp only [y_k1 hp hL, y_k2 hp hL, y_o6, z_bs, e1, y_o52, e0, e2, z_iT]
  exact hon _ _ _ _ _ hQ
theorem U_12 (hL : L ≤ 3584) (hp : p + 6 < L) (hk : kq < 90000) (hI : I_all c0 s0 kq Dh S R nx sl) (hon : y_on L c0 p kq s0) : ∃ h' : z_H, L233_33 (some 0) (some 6) (some 52) (nI p) 12 (z_mk L Dh S R nx sl) = some (1, h') ∧ h'.1 ≤ 87 + 6 * 512 ∧ h'.2.1 ≤ c0 + 700 * 512 := by
  have h87 := hI.2.2.2.1
  rw [E233_33_12 _ _ _ _ _ _ rfl]
  obtain ⟨r, D', S1, S2, R', nx', sl', e1, e2, hQ⟩ := T_camera (L := L) hk hI (S 0 (p + 1)) (S 0 (p + 2)) (S 0 (p + 3)) (S 0 (p + 4)) (S 0 (p + 5)) (S 0 (p + 6))
  have e0 := y_keep h87 e1
  have e1 : z_cI 2 93 [.inr (.inr (some 6)), .inl (S 0 (p + 1)), .inl (S 0 (p + 2)), .inl (S 0 (p + 3)), .inl (S 0 (p + 4)), .inl (S 0 (p + 5)), .inl (S 0 (p + 6))] (z_mk L Dh S R nx sl) = _ := e1
  have e2 : z_cI 2 161 [.inr (.inr (some 52)), .inl (S 0 (p + 1)), .inl (S 0 (p + 2)), .inl (S 0 (p + 3)), .inl (S 0 (p + 4)), .inl (S 0 (p + 5)), .inl (S 0 (p + 6))] (z_mk L D' S1 R' nx' sl') = _ := e2
  simp only [y_k1 hp hL, y_k2 hp hL, y_k3 hp hL, y_k4 hp hL, y_k5 hp hL, y_k6 hp hL, y_o6, z_bs, e1, y_o52, e0, e2, z_iT]
  exact hon _ _ _ _ _ hQ
theorem U_13 (hL : L ≤ 3584) (hp : p + 6 < L) (hk : kq < 90000) (hI : I_all c0 s0 kq Dh S R nx sl) (hon : y_on L c0 p kq s0) : ∃ h' : z_H, L233_33 (some 0) (some 6) (some 52) (nI p) 13 (z_mk L Dh S R nx sl) = some (1, h') ∧ h'.1 ≤ 87 + 6 * 512 ∧ h'.2.1 ≤ c0 + 700 * 512 := by
  have h87 := hI.2.2.2.1
  rw [E233_33_13 _ _ _ _ _ _ rfl]
  obtain ⟨r, D', S1, S2, R', nx', sl', e1, e2, hQ⟩ := T_sees (L := L) hk hI (S 0 (p + 1)) (S 0 (p + 2))
  have e0 := y_keep h87 e1
  have e1 : z_cI 5 94 [.inr (.inr (some 6)), .inl (S 0 (p + 1)), .inl (S 0 (p + 2))] (z_mk L Dh S R nx sl) = _ := e1
  have e2 : z_cI 4 165 [.inr (.inr (some 52)), .inl (S 0 (p + 1)), .inl (S 0 (p + 2))] (z_mk L D' S1 R' nx' sl') = _ := e2
  simp only [y_k1 hp hL, y_k2 hp hL, y_o6, z_bs, e1, y_o52, e0, e2, z_iT]
  exact hon _ _ _ _ _ hQ
theorem U_14 (hL : L ≤ 3584) (hp : p + 6 < L) (hk : kq < 90000) (hI : I_all c0 s0 kq Dh S R nx sl) (hon : y_on L c0 p kq s0) : ∃ h' : z_H, L233_33 (some 0) (some 6) (some 52) (nI p) 14 (z_mk L Dh S R nx sl) = some (1, h') ∧ h'.1 ≤ 87 + 6 * 512 ∧ h'.2.1 ≤ c0 + 700 * 512 := by
  have h87 := hI.2.2.2.1
  rw [E233_33_14 _ _ _ _ _ _ rfl]
  obtain ⟨r, D', S1, S2, R', nx', sl', e1, e2, hQ⟩ := T_quarrels (L := L) hk hI (S 0 (p + 1))
  have e0 := y_keep h87 e1
  have e1 : z_cI 7 95 [.inr (.inr (some 6)), .inl (S 0 (p + 1))] (z_mk L Dh S R nx sl) = _ := e1
  have e2 : z_cI 6 168 [.inr (.inr (some 52)), .inl (S 0 (p + 1))] (z_mk L D' S1 R' nx' sl') = _ := e2
  simp only [y_k1 hp hL, y_o6, z_bs, e1, y_o52, e0, e2, z_iT]
  exact hon _ _ _ _ _ hQ
theorem U_15 (hL : L ≤ 3584) (hp : p + 6 < L) (hk : kq < 90000) (hI : I_all c0 s0 kq Dh S R nx sl) (hon : y_on L c0 p kq s0) : ∃ h' : z_H, L233_33 (some 0) (some 6) (some 52) (nI p) 15 (z_mk L Dh S R nx sl) = some (1, h') ∧ h'.1 ≤ 87 + 6 * 512 ∧ h'.2.1 ≤ c0 + 700 * 512 := by
  have h87 := hI.2.2.2.1
  rw [E233_33_15 _ _ _ _ _ _ rfl]
  obtain ⟨r, D', S1, S2, R', nx', sl', e1, e2, hQ⟩ := T_picture (L := L) hk hI (S 0 (p + 1)) (S 0 (p + 2))
  have e0 := y_keep h87 e1
  have e1 : z_cI 6 96 [.inr (.inr (some 6)), .inl (S 0 (p + 1)), .inl (S 0 (p + 2))] (z_mk L Dh S R nx sl) = _ := e1
  have e2 : z_cI 4 169 [.inr (.inr (some 52)), .inl (S 0 (p + 1)), .inl (S 0 (p + 2))] (z_mk L D' S1 R' nx' sl') = _ := e2
  simp only [y_k1 hp hL, y_k2 hp hL, y_o6, z_bs, e1, y_o52, e0, e2, z_iT]
  exact hon _ _ _ _ _ hQ
theorem U_16 (hL : L ≤ 3584) (hp : p + 6 < L) (hk : kq < 90000) (hI : I_all c0 s0 kq Dh S R nx sl) (hon : y_on L c0 p kq s0) : ∃ h' : z_H, L233_33 (some 0) (some 6) (some 52) (nI p) 16 (z_mk L Dh S R nx sl) = some (1, h') ∧ h'.1 ≤ 87 + 6 * 512 ∧ h'.2.1 ≤ c0 + 700 * 512 := by
  have h87 := hI.2.2.2.1
  rw [E233_33_16 _ _ _ _ _ _ rfl]
  obtain ⟨r, D', S1, S2, R', nx', sl', e1, e2, hQ⟩ := T_tell (L := L) hk hI (S 0 (p + 1)) (S 0 (p + 2))
  have e0 := y_keep h87 e1
  have e1 : z_cI 2 97 [.inr (.inr (some 6)), .inl (S 0 (p + 1)), .inl (S 0 (p + 2))] (z_mk L Dh S R nx sl) = _ := e1
  have e2 : z_cI 2 170 [.inr (.inr (some 52)), .inl (S 0 (p + 1)), .inl (S 0 (p + 2))] (z_mk L D' S1 R' nx' sl') = _ := e2
  simp only [y_k1 hp hL, y_k2 hp hL, y_o6, z_bs, e1, y_o52, e0, e2, z_iT]
  exact hon _ _ _ _ _ hQ
theorem U_17 (hL : L ≤ 3584) (hp : p + 6 < L) (hk : kq < 90000) (hI : I_all c0 s0 kq Dh S R nx sl) (hon : y_on L c0 p kq s0) : ∃ h' : z_H, L233_33 (some 0) (some 6) (some 52) (nI p) 17 (z_mk L Dh S R nx sl) = some (1, h') ∧ h'.1 ≤ 87 + 6 * 512 ∧ h'.2.1 ≤ c0 + 700 * 512 := by
  have h87 := hI.2.2.2.1
  rw [E233_33_17 _ _ _ _ _ _ rfl]
  obtain ⟨r, D', S1, S2, R', nx', sl', e1, e2, hQ⟩ := T_feed (L := L) hk hI (S 0 (p + 1)) ((((S 0 (p + 2)).toInt64 <<< ((32 : Int32).toInt64 &&& 63)) ||| ((S 0 (p + 3)).toInt64 &&& (4294967295 : Int64))))
  have e0 := y_keep h87 e1
  have e1 : z_cI 2 98 [.inr (.inr (some 6)), .inl (S 0 (p + 1)), .inr (.inl (((S 0 (p + 2)).toInt64 <<< ((32 : Int32).toInt64 &&& 63)) ||| ((S 0 (p + 3)).toInt64 &&& (4294967295 : Int64))))] (z_mk L Dh S R nx sl) = _ := e1
  have e2 : z_cI 2 171 [.inr (.inr (some 52)), .inl (S 0 (p + 1)), .inr (.inl (((S 0 (p + 2)).toInt64 <<< ((32 : Int32).toInt64 &&& 63)) ||| ((S 0 (p + 3)).toInt64 &&& (4294967295 : Int64))))] (z_mk L D' S1 R' nx' sl') = _ := e2
  simp only [y_k1 hp hL, y_k2 hp hL, y_k3 hp hL, y_o6, z_bs, e1, y_o52, e0, e2, z_iT]
  exact hon _ _ _ _ _ hQ
theorem U_18 (hL : L ≤ 3584) (hp : p + 6 < L) (hk : kq < 90000) (hI : I_all c0 s0 kq Dh S R nx sl) (hon : y_on L c0 p kq s0) : ∃ h' : z_H, L233_33 (some 0) (some 6) (some 52) (nI p) 18 (z_mk L Dh S R nx sl) = some (1, h') ∧ h'.1 ≤ 87 + 6 * 512 ∧ h'.2.1 ≤ c0 + 700 * 512 := by
  have h87 := hI.2.2.2.1
  rw [E233_33_18 _ _ _ _ _ _ rfl]
  obtain ⟨r, D', S1, S2, R', nx', sl', e1, e2, hQ⟩ := T_text (L := L) hk hI (S 0 (p + 1))
  have e0 := y_keep h87 e1
  have e1 : z_cI 63 99 [.inr (.inr (some 6)), .inl (S 0 (p + 1))] (z_mk L Dh S R nx sl) = _ := e1
  have e2 : z_cI 3 175 [.inr (.inr (some 52)), .inl (S 0 (p + 1))] (z_mk L D' S1 R' nx' sl') = _ := e2
  simp only [y_k1 hp hL, y_o6, z_bs, e1, y_o52, e0, e2, z_iT]
  exact hon _ _ _ _ _ hQ
theorem U_19 (hL : L ≤ 3584) (hp : p + 6 < L) (hk : kq < 90000) (hI : I_all c0 s0 kq Dh S R nx sl) (hon : y_on L c0 p kq s0) : ∃ h' : z_H, L233_33 (some 0) (some 6) (some 52) (nI p) 19 (z_mk L Dh S R nx sl) = some (1, h') ∧ h'.1 ≤ 87 + 6 * 512 ∧ h'.2.1 ≤ c0 + 700 * 512 := by
  have h87 := hI.2.2.2.1
  rw [E233_33_19 _ _ _ _ _ _ rfl]
  obtain ⟨r, D', S1, S2, R', nx', sl', e1, e2, hQ⟩ := T_lets (L := L) hk hI (S 0 (p + 1))
  have e0 := y_keep h87 e1
  have e1 : z_cI 63 100 [.inr (.inr (some 6)), .inl (S 0 (p + 1))] (z_mk L Dh S R nx sl) = _ := e1
  have e2 : z_cI 11 181 [.inr (.inr (some 52)), .inl (S 0 (p + 1))] (z_mk L D' S1 R' nx' sl') = _ := e2
  simp only [y_k1 hp hL, y_o6, z_bs, e1, y_o52, e0, e2, z_iT]
  exact hon _ _ _ _ _ hQ
theorem U_20 (hL : L ≤ 3584) (hp : p + 6 < L) (hk : kq < 90000) (hI : I_all c0 s0 kq Dh S R nx sl) (hon : y_on L c0 p kq s0) : ∃ h' : z_H, L233_33 (some 0) (some 6) (some 52) (nI p) 20 (z_mk L Dh S R nx sl) = some (1, h') ∧ h'.1 ≤ 87 + 6 * 512 ∧ h'.2.1 ≤ c0 + 700 * 512 := by
  have h87 := hI.2.2.2.1
  rw [E233_33_20 _ _ _ _ _ _ rfl]
  obtain ⟨r, D', S1, S2, R', nx', sl', e1, e2, hQ⟩ := T_take (L := L) hk hI 
  have e0 := y_keep h87 e1
  have e1 : z_cI 63 101 [.inr (.inr (some 6))] (z_mk L Dh S R nx sl) = _ := e1
  have e2 : z_cI 11 182 [.inr (.inr (some 52))] (z_mk L D' S1 R' nx' sl') = _ := e2
  simp only [y_o6, z_bs, e1, y_o52, e0, e2, z_iT]
  exact hon _ _ _ _ _ hQ
theorem U_21 (hL : L ≤ 3584) (hp : p + 6 < L) (hk : kq < 90000) (hI : I_all c0 s0 kq Dh S R nx sl) (hon : y_on L c0 p kq s0) : ∃ h' : z_H, L233_33 (some 0) (some 6) (some 52) (nI p) 21 (z_mk L Dh S R nx sl) = some (1, h') ∧ h'.1 ≤ 87 + 6 * 512 ∧ h'.2.1 ≤ c0 + 700 * 512 := by
  have h87 := hI.2.2.2.1
  rw [E233_33_21 _ _ _ _ _ _ rfl]
  obtain ⟨r, D', S1, S2, R', nx', sl', e1, e2, hQ⟩ := T_ramp (L := L) hk hI (S 0 (p + 1)) (S 0 (p + 2)) (S 0 (p + 3)) (S 0 (p + 4))
  have e0 := y_keep h87 e1
  have e1 : z_cI 2 102 [.inr (.inr (some 6)), .inl (S 0 (p + 1)), .inl (S 0 (p + 2)), .inl (S 0 (p + 3)), .inl (S 0 (p + 4))] (z_mk L Dh S R nx sl) = _ := e1
  have e2 : z_cI 2 183 [.inr (.inr (some 52)), .inl (S 0 (p + 1)), .inl (S 0 (p + 2)), .inl (S 0 (p + 3)), .inl (S 0 (p + 4))] (z_mk L D' S1 R' nx' sl') = _ := e2
  simp only [y_k1 hp hL, y_k2 hp hL, y_k3 hp hL, y_k4 hp hL, y_o6, z_bs, e1, y_o52, e0, e2, z_iT]
  exact hon _ _ _ _ _ hQ
theorem U_22 (hL : L ≤ 3584) (hp : p + 6 < L) (hk : kq < 90000) (hI : I_all c0 s0 kq Dh S R nx sl) (hon : y_on L c0 p kq s0) : ∃ h' : z_H, L233_33 (some 0) (some 6) (some 52) (nI p) 22 (z_mk L Dh S R nx sl) = some (1, h') ∧ h'.1 ≤ 87 + 6 * 512 ∧ h'.2.1 ≤ c0 + 700 * 512 := by
  have h87 := hI.2.2.2.1
  rw [E233_33_22 _ _ _ _ _ _ rfl]
  obtain ⟨r, D', S1, S2, R', nx', sl', e1, e2, hQ⟩ := T_lands (L := L) hk hI (S 0 (p + 1)) (S 0 (p + 2))
  have e0 := y_keep h87 e1
  have e1 : z_cI 3 103 [.inr (.inr (some 6)), .inl (S 0 (p + 1)), .inl (S 0 (p + 2))] (z_mk L Dh S R nx sl) = _ := e1
  have e2 : z_cI 2 185 [.inr (.inr (some 52)), .inl (S 0 (p + 1)), .inl (S 0 (p + 2))] (z_mk L D' S1 R' nx' sl') = _ := e2
  simp only [y_k1 hp hL, y_k2 hp hL, y_o6, z_bs, e1, y_o52, e0, e2, z_iT]
  exact hon _ _ _ _ _ hQ
theorem U_23 (hL : L ≤ 3584) (hp : p + 6 < L) (hk : kq < 90000) (hI : I_all c0 s0 kq Dh S R nx sl) (hon : y_on L c0 p kq s0) : ∃ h' : z_H, L233_33 (some 0) (some 6) (some 52) (nI p) 23 (z_mk L Dh S R nx sl) = some (1, h') ∧ h'.1 ≤ 87 + 6 * 512 ∧ h'.2.1 ≤ c0 + 700 * 512 := by
  have h87 := hI.2.2.2.1
  rw [E233_33_23 _ _ _ _ _ _ rfl]
  obtain ⟨r, D', S1, S2, R', nx', sl', e1, e2, hQ⟩ := T_speeds (L := L) hk hI (S 0 (p + 1)) (S 0 (p + 2))
  have e0 := y_keep h87 e1
  have e1 : z_cI 4 104 [.inr (.inr (some 6)), .inl (S 0 (p + 1)), .inl (S 0 (p + 2))] (z_mk L Dh S R nx sl) = _ := e1
  have e2 : z_cI 2 186 [.inr (.inr (some 52)), .inl (S 0 (p + 1)), .inl (S 0 (p + 2))] (z_mk L D' S1 R' nx' sl') = _ := e2
  simp only [y_k1 hp hL, y_k2 hp hL, y_o6, z_bs, e1, y_o52, e0, e2, z_iT]
  exact hon _ _ _ _ _ hQ
theorem U_24 (hL : L ≤ 3584) (hp : p + 6 < L) (hk : kq < 90000) (hI : I_all c0 s0 kq Dh S R nx sl) (hon : y_on L c0 p kq s0) : ∃ h' : z_H, L233_33 (some 0) (some 6) (some 52) (nI p) 24 (z_mk L Dh S R nx sl) = some (1, h') ∧ h'.1 ≤ 87 + 6 * 512 ∧ h'.2.1 ≤ c0 + 700 * 512 := by
  have h87 := hI.2.2.2.1
  rw [E233_33_24 _ _ _ _ _ _ rfl]
  obtain ⟨r, D', S1, S2, R', nx', sl', e1, e2, hQ⟩ := T_bags (L := L) hk hI (S 0 (p + 1)) (S 0 (p + 2))
  have e0 := y_keep h87 e1
  have e1 : z_cI 3 105 [.inr (.inr (some 6)), .inl (S 0 (p + 1)), .inl (S 0 (p + 2))] (z_mk L Dh S R nx sl) = _ := e1
  have e2 : z_cI 2 187 [.inr (.inr (some 52)), .inl (S 0 (p + 1)), .inl (S 0 (p + 2))] (z_mk L D' S1 R' nx' sl') = _ := e2
  simp only [y_k1 hp hL, y_k2 hp hL, y_o6, z_bs, e1, y_o52, e0, e2, z_iT]
  exact hon _ _ _ _ _ hQ
theorem U_25 (hL : L ≤ 3584) (hp : p + 6 < L) (hk : kq < 90000) (hI : I_all c0 s0 kq Dh S R nx sl) (hon : y_on L c0 p kq s0) : ∃ h' : z_H, L233_33 (some 0) (some 6) (some 52) (nI p) 25 (z_mk L Dh S R nx sl) = some (1, h') ∧ h'.1 ≤ 87 + 6 * 512 ∧ h'.2.1 ≤ c0 + 700 * 512 := by
  have h87 := hI.2.2.2.1
  rw [E233_33_25 _ _ _ _ _ _ rfl]
  obtain ⟨r, D', S1, S2, R', nx', sl', e1, e2, hQ⟩ := T_fire (L := L) hk hI (S 0 (p + 1)) (S 0 (p + 2)) (S 0 (p + 3)) (S 0 (p + 4))
  have e0 := y_keep h87 e1
  have e1 : z_cI 3 106 [.inr (.inr (some 6)), .inl (S 0 (p + 1)), .inl (S 0 (p + 2)), .inl (S 0 (p + 3)), .inl (S 0 (p + 4))] (z_mk L Dh S R nx sl) = _ := e1
  have e2 : z_cI 2 188 [.inr (.inr (some 52)), .inl (S 0 (p + 1)), .inl (S 0 (p + 2)), .inl (S 0 (p + 3)), .inl (S 0 (p + 4))] (z_mk L D' S1 R' nx' sl') = _ := e2
  simp only [y_k1 hp hL, y_k2 hp hL, y_k3 hp hL, y_k4 hp hL, y_o6, z_bs, e1, y_o52, e0, e2, z_iT]
  exact hon _ _ _ _ _ hQ
theorem U_26 (hL : L ≤ 3584) (hp : p + 6 < L) (hk : kq < 90000) (hI : I_all c0 s0 kq Dh S R nx sl) (hon : y_on L c0 p kq s0) : ∃ h' : z_H, L233_33 (some 0) (some 6) (some 52) (nI p) 26 (z_mk L Dh S R nx sl) = some (1, h') ∧ h'.1 ≤ 87 + 6 * 512 ∧ h'.2.1 ≤ c0 + 700 * 512 := by
  have h87 := hI.2.2.2.1
  rw [E233_33_26 _ _ _ _ _ _ rfl]
  obtain ⟨r, D', S1, S2, R', nx', sl', e1, e2, hQ⟩ := T_shot (L := L) hk hI (S 0 (p + 1)) (S 0 (p + 2)) (S 0 (p + 3)) (S 0 (p + 4)) (S 0 (p + 5)) (S 0 (p + 6))
  have e0 := y_keep h87 e1
  have e1 : z_cI 62 107 [.inr (.inr (some 6)), .inl (S 0 (p + 1)), .inl (S 0 (p + 2)), .inl (S 0 (p + 3)), .inl (S 0 (p + 4)), .inl (S 0 (p + 5)), .inl (S 0 (p + 6))] (z_mk L Dh S R nx sl) = _ := e1
  have e2 : z_cI 2 189 [.inr (.inr (some 52)), .inl (S 0 (p + 1)), .inl (S 0 (p + 2)), .inl (S 0 (p + 3)), .inl (S 0 (p + 4)), .inl (S 0 (p + 5)), .inl (S 0 (p + 6))] (z_mk L D' S1 R' nx' sl') = _ := e2
  simp only [y_k1 hp hL, y_k2 hp hL, y_k3 hp hL, y_k4 hp hL, y_k5 hp hL, y_k6 hp hL, y_o6, z_bs, e1, y_o52, e0, e2, z_iT]
  exact hon _ _ _ _ _ hQ
theorem U_27 (hL : L ≤ 3584) (hp : p + 6 < L) (hk : kq < 90000) (hI : I_all c0 s0 kq Dh S R nx sl) (hon : y_on L c0 p kq s0) : ∃ h' : z_H, L233_33 (some 0) (some 6) (some 52) (nI p) 27 (z_mk L Dh S R nx sl) = some (1, h') ∧ h'.1 ≤ 87 + 6 * 512 ∧ h'.2.1 ≤ c0 + 700 * 512 := by
  have h87 := hI.2.2.2.1
  rw [E233_33_27 _ _ _ _ _ _ rfl]
  obtain ⟨r, D', S1, S2, R', nx', sl', e1, e2, hQ⟩ := T_best (L := L) hk hI (S 0 (p + 1))
  have e0 := y_keep h87 e1
  have e1 : z_cI 2 108 [.inr (.inr (some 6)), .inl (S 0 (p + 1))] (z_mk L Dh S R nx sl) = _ := e1
  have e2 : z_cI 3 194 [.inr (.inr (some 52)), .inl (S 0 (p + 1))] (z_mk L D' S1 R' nx' sl') = _ := e2
  simp only [y_k1 hp hL, y_o6, z_bs, e1, y_o52, e0, e2, z_iT]
  exact hon _ _ _ _ _ hQ
theorem U_28 (hL : L ≤ 3584) (hp : p + 6 < L) (hk : kq < 90000) (hI : I_all c0 s0 kq Dh S R nx sl) (hon : y_on L c0 p kq s0) : ∃ h' : z_H, L233_33 (some 0) (some 6) (some 52) (nI p) 28 (z_mk L Dh S R nx sl) = some (1, h') ∧ h'.1 ≤ 87 + 6 * 512 ∧ h'.2.1 ≤ c0 + 700 * 512 := by
  have h87 := hI.2.2.2.1
  rw [E233_33_28 _ _ _ _ _ _ rfl]
  obtain ⟨r, D', S1, S2, R', nx', sl', e1, e2, hQ⟩ := T_put (L := L) hk hI (S 0 (p + 1))
  have e0 := y_keep h87 e1
  have e1 : z_cI 2 109 [.inr (.inr (some 6)), .inl (S 0 (p + 1))] (z_mk L Dh S R nx sl) = _ := e1
  have e2 : z_cI 2 195 [.inr (.inr (some 52)), .inl (S 0 (p + 1))] (z_mk L D' S1 R' nx' sl') = _ := e2
  simp only [y_k1 hp hL, y_o6, z_bs, e1, y_o52, e0, e2, z_iT]
  exact hon _ _ _ _ _ hQ
theorem U_29 (hL : L ≤ 3584) (hp : p + 6 < L) (hk : kq < 90000) (hI : I_all c0 s0 kq Dh S R nx sl) (hon : y_on L c0 p kq s0) : ∃ h' : z_H, L233_33 (some 0) (some 6) (some 52) (nI p) 29 (z_mk L Dh S R nx sl) = some (1, h') ∧ h'.1 ≤ 87 + 6 * 512 ∧ h'.2.1 ≤ c0 + 700 * 512 := by
  have h87 := hI.2.2.2.1
  rw [E233_33_29 _ _ _ _ _ _ rfl]
  obtain ⟨r, D', S1, S2, R', nx', sl', e1, e2, hQ⟩ := T_judge (L := L) hk hI 
  have e0 := y_keep h87 e1
  have e1 : z_cI 4 110 [.inr (.inr (some 6))] (z_mk L Dh S R nx sl) = _ := e1
  have e2 : z_cI 2 196 [.inr (.inr (some 52))] (z_mk L D' S1 R' nx' sl') = _ := e2
  simp only [y_o6, z_bs, e1, y_o52, e0, e2, z_iT]
  exact hon _ _ _ _ _ hQ
theorem U_30 (hL : L ≤ 3584) (hp : p + 6 < L) (hk : kq < 90000) (hI : I_all c0 s0 kq Dh S R nx sl) (hon : y_on L c0 p kq s0) : ∃ h' : z_H, L233_33 (some 0) (some 6) (some 52) (nI p) 30 (z_mk L Dh S R nx sl) = some (1, h') ∧ h'.1 ≤ 87 + 6 * 512 ∧ h'.2.1 ≤ c0 + 700 * 512 := by
  have h87 := hI.2.2.2.1
  rw [E233_33_30 _ _ _ _ _ _ rfl]
  obtain ⟨r, D', S1, S2, R', nx', sl', e1, e2, hQ⟩ := T_marks (L := L) hk hI (S 0 (p + 1)) (S 0 (p + 2))
  have e0 := y_keep h87 e1
  have e1 : z_cI 2 111 [.inr (.inr (some 6)), .inl (S 0 (p + 1)), .inl (S 0 (p + 2))] (z_mk L Dh S R nx sl) = _ := e1
  have e2 : z_cI 2 197 [.inr (.inr (some 52)), .inl (S 0 (p + 1)), .inl (S 0 (p + 2))] (z_mk L D' S1 R' nx' sl') = _ := e2
  simp only [y_k1 hp hL, y_k2 hp hL, y_o6, z_bs, e1, y_o52, e0, e2, z_iT]
  exact hon _ _ _ _ _ hQ
theorem U_31 (hL : L ≤ 3584) (hp : p + 6 < L) (hk : kq < 90000) (hI : I_all c0 s0 kq Dh S R nx sl) (hon : y_on L c0 p kq s0) : ∃ h' : z_H, L233_33 (some 0) (some 6) (some 52) (nI p) 31 (z_mk L Dh S R nx sl) = some (1, h') ∧ h'.1 ≤ 87 + 6 * 512 ∧ h'.2.1 ≤ c0 + 700 * 512 := by
  have h87 := hI.2.2.2.1
  rw [E233_33_31 _ _ _ _ _ _ rfl]
  obtain ⟨r, D', S1, S2, R', nx', sl', e1, e2, hQ⟩ := T_matched (L := L) hk hI (S 0 (p + 1))
  have e0 := y_keep h87 e1
  have e1 : z_cI 62 112 [.inr (.inr (some 6)), .inl (S 0 (p + 1))] (z_mk L Dh S R nx sl) = _ := e1
  have e2 : z_cI 4 201 [.inr (.inr (some 52)), .inl (S 0 (p + 1))] (z_mk L D' S1 R' nx' sl') = _ := e2
  simp only [y_k1 hp hL, y_o6, z_bs, e1, y_o52, e0, e2, z_iT]
  exact hon _ _ _ _ _ hQ
theorem U_32 (hL : L ≤ 3584) (hp : p + 6 < L) (hk : kq < 90000) (hI : I_all c0 s0 kq Dh S R nx sl) (hon : y_on L c0 p kq s0) : ∃ h' : z_H, L233_33 (some 0) (some 6) (some 52) (nI p) 32 (z_mk L Dh S R nx sl) = some (1, h') ∧ h'.1 ≤ 87 + 6 * 512 ∧ h'.2.1 ≤ c0 + 700 * 512 := by
  have h87 := hI.2.2.2.1
  rw [E233_33_32 _ _ _ _ _ _ rfl]
  obtain ⟨r, D', S1, S2, R', nx', sl', e1, e2, hQ⟩ := T_days (L := L) hk hI (S 0 (p + 1))
  have e0 := y_keep h87 e1
  have e1 : z_cI 2 113 [.inr (.inr (some 6)), .inl (S 0 (p + 1))] (z_mk L Dh S R nx sl) = _ := e1
  have e2 : z_cI 2 202 [.inr (.inr (some 52)), .inl (S 0 (p + 1))] (z_mk L D' S1 R' nx' sl') = _ := e2
  simp only [y_k1 hp hL, y_o6, z_bs, e1, y_o52, e0, e2, z_iT]
  exact hon _ _ _ _ _ hQ
theorem U_33 (hL : L ≤ 3584) (hp : p + 6 < L) (hk : kq < 90000) (hI : I_all c0 s0 kq Dh S R nx sl) (hon : y_on L c0 p kq s0) : ∃ h' : z_H, L233_33 (some 0) (some 6) (some 52) (nI p) 33 (z_mk L Dh S R nx sl) = some (1, h') ∧ h'.1 ≤ 87 + 6 * 512 ∧ h'.2.1 ≤ c0 + 700 * 512 := by
  have h87 := hI.2.2.2.1
  rw [E233_33_33 _ _ _ _ _ _ rfl]
  obtain ⟨r, D', S1, S2, R', nx', sl', e1, e2, hQ⟩ := T_run (L := L) hk hI (S 0 (p + 1)) (S 0 (p + 2)) (S 0 (p + 3))
  have e0 := y_keep h87 e1
  have e1 : z_cI 2 114 [.inr (.inr (some 6)), .inl (S 0 (p + 1)), .inl (S 0 (p + 2)), .inl (S 0 (p + 3))] (z_mk L Dh S R nx sl) = _ := e1
  have e2 : z_cI 2 203 [.inr (.inr (some 52)), .inl (S 0 (p + 1)), .inl (S 0 (p + 2)), .inl (S 0 (p + 3))] (z_mk L D' S1 R' nx' sl') = _ := e2
  simp only [y_k1 hp hL, y_k2 hp hL, y_k3 hp hL, y_o6, z_bs, e1, y_o52, e0, e2, z_iT]
  exact hon _ _ _ _ _ hQ
theorem U_34 (hL : L ≤ 3584) (hp : p + 6 < L) (hk : kq < 90000) (hI : I_all c0 s0 kq Dh S R nx sl) (hon : y_on L c0 p kq s0) : ∃ h' : z_H, L233_33 (some 0) (some 6) (some 52) (nI p) 34 (z_mk L Dh S R nx sl) = some (1, h') ∧ h'.1 ≤ 87 + 6 * 512 ∧ h'.2.1 ≤ c0 + 700 * 512 := by
  have h87 := hI.2.2.2.1
  rw [E233_33_34 _ _ _ _ _ _ rfl]
  obtain ⟨r, D', S1, S2, R', nx', sl', e1, e2, hQ⟩ := T_takeBack (L := L) hk hI (S 0 (p + 1))
  have e0 := y_keep h87 e1
  have e1 : z_cI 2 115 [.inr (.inr (some 6)), .inl (S 0 (p + 1))] (z_mk L Dh S R nx sl) = _ := e1
  have e2 : z_cI 2 204 [.inr (.inr (some 52)), .inl (S 0 (p + 1))] (z_mk L D' S1 R' nx' sl') = _ := e2
  simp only [y_k1 hp hL, y_o6, z_bs, e1, y_o52, e0, e2, z_iT]
  exact hon _ _ _ _ _ hQ
theorem U_35 (hL : L ≤ 3584) (hp : p + 6 < L) (hk : kq < 90000) (hI : I_all c0 s0 kq Dh S R nx sl) (hon : y_on L c0 p kq s0) : ∃ h' : z_H, L233_33 (some 0) (some 6) (some 52) (nI p) 35 (z_mk L Dh S R nx sl) = some (1, h') ∧ h'.1 ≤ 87 + 6 * 512 ∧ h'.2.1 ≤ c0 + 700 * 512 := by
  have h87 := hI.2.2.2.1
  rw [E233_33_35 _ _ _ _ _ _ rfl]
  obtain ⟨r, D', S1, S2, R', nx', sl', e1, e2, hQ⟩ := T_grip (L := L) hk hI (S 0 (p + 1)) (S 0 (p + 2))
  have e0 := y_keep h87 e1
  have e1 : z_cI 3 116 [.inr (.inr (some 6)), .inl (S 0 (p + 1)), .inl (S 0 (p + 2))] (z_mk L Dh S R nx sl) = _ := e1
  have e2 : z_cI 2 207 [.inr (.inr (some 52)), .inl (S 0 (p + 1)), .inl (S 0 (p + 2))] (z_mk L D' S1 R' nx' sl') = _ := e2
  simp only [y_k1 hp hL, y_k2 hp hL, y_o6, z_bs, e1, y_o52, e0, e2, z_iT]
  exact hon _ _ _ _ _ hQ
theorem U_36 (hL : L ≤ 3584) (hp : p + 6 < L) (hk : kq < 90000) (hI : I_all c0 s0 kq Dh S R nx sl) (hon : y_on L c0 p kq s0) : ∃ h' : z_H, L233_33 (some 0) (some 6) (some 52) (nI p) 36 (z_mk L Dh S R nx sl) = some (1, h') ∧ h'.1 ≤ 87 + 6 * 512 ∧ h'.2.1 ≤ c0 + 700 * 512 := by
  have h87 := hI.2.2.2.1
  rw [E233_33_36 _ _ _ _ _ _ rfl]
  obtain ⟨r, D', S1, S2, R', nx', sl', e1, e2, hQ⟩ := T_stop (L := L) hk hI (S 0 (p + 1)) (S 0 (p + 2)) (S 0 (p + 3))
  have e0 := y_keep h87 e1
  have e1 : z_cI 4 117 [.inr (.inr (some 6)), .inl (S 0 (p + 1)), .inl (S 0 (p + 2)), .inl (S 0 (p + 3))] (z_mk L Dh S R nx sl) = _ := e1
  have e2 : z_cI 3 208 [.inr (.inr (some 52)), .inl (S 0 (p + 1)), .inl (S 0 (p + 2)), .inl (S 0 (p + 3))] (z_mk L D' S1 R' nx' sl') = _ := e2
  simp only [y_k1 hp hL, y_k2 hp hL, y_k3 hp hL, y_o6, z_bs, e1, y_o52, e0, e2, z_iT]
  exact hon _ _ _ _ _ hQ
theorem U_37 (hL : L ≤ 3584) (hp : p + 6 < L) (hk : kq < 90000) (hI : I_all c0 s0 kq Dh S R nx sl) (hon : y_on L c0 p kq s0) : ∃ h' : z_H, L233_33 (some 0) (some 6) (some 52) (nI p) 37 (z_mk L Dh S R nx sl) = some (1, h') ∧ h'.1 ≤ 87 + 6 * 512 ∧ h'.2.1 ≤ c0 + 700 * 512 := by
  have h87 := hI.2.2.2.1
  rw [E233_33_37 _ _ _ _ _ _ rfl]
  obtain ⟨r, D', S1, S2, R', nx', sl', e1, e2, hQ⟩ := T_plan (L := L) hk hI (S 0 (p + 1)) (S 0 (p + 2)) (S 0 (p + 3))
  have e0 := y_keep h87 e1
  have e1 : z_cI 2 118 [.inr (.inr (some 6)), .inl (S 0 (p + 1)), .inl (S 0 (p + 2)), .inl (S 0 (p + 3))] (z_mk L Dh S R nx sl) = _ := e1
  have e2 : z_cI 2 209 [.inr (.inr (some 52)), .inl (S 0 (p + 1)), .inl (S 0 (p + 2)), .inl (S 0 (p + 3))] (z_mk L D' S1 R' nx' sl') = _ := e2
  simp only [y_k1 hp hL, y_k2 hp hL, y_k3 hp hL, y_o6, z_bs, e1, y_o52, e0, e2, z_iT]
  exact hon _ _ _ _ _ hQ
theorem U_38 (hL : L ≤ 3584) (hp : p + 6 < L) (hk : kq < 90000) (hI : I_all c0 s0 kq Dh S R nx sl) (hon : y_on L c0 p kq s0) : ∃ h' : z_H, L233_33 (some 0) (some 6) (some 52) (nI p) 38 (z_mk L Dh S R nx sl) = some (1, h') ∧ h'.1 ≤ 87 + 6 * 512 ∧ h'.2.1 ≤ c0 + 700 * 512 := by
  have h87 := hI.2.2.2.1
  rw [E233_33_38 _ _ _ _ _ _ rfl]
  obtain ⟨r, D', S1, S2, R', nx', sl', e1, e2, hQ⟩ := T_good (L := L) hk hI (S 0 (p + 1)) (S 0 (p + 2))
  have e0 := y_keep h87 e1
  have e1 : z_cI 5 119 [.inr (.inr (some 6)), .inl (S 0 (p + 1)), .inl (S 0 (p + 2))] (z_mk L Dh S R nx sl) = _ := e1
  have e2 : z_cI 4 211 [.inr (.inr (some 52)), .inl (S 0 (p + 1)), .inl (S 0 (p + 2))] (z_mk L D' S1 R' nx' sl') = _ := e2
  simp only [y_k1 hp hL, y_k2 hp hL, y_o6, z_bs, e1, y_o52, e0, e2, z_iT]
  exact hon _ _ _ _ _ hQ
theorem U_39 (hL : L ≤ 3584) (hp : p + 6 < L) (hk : kq < 90000) (hI : I_all c0 s0 kq Dh S R nx sl) (hon : y_on L c0 p kq s0) : ∃ h' : z_H, L233_33 (some 0) (some 6) (some 52) (nI p) 39 (z_mk L Dh S R nx sl) = some (1, h') ∧ h'.1 ≤ 87 + 6 * 512 ∧ h'.2.1 ≤ c0 + 700 * 512 := by
  have h87 := hI.2.2.2.1
  rw [E233_33_39 _ _ _ _ _ _ rfl]
  obtain ⟨r, D', S1, S2, R', nx', sl', e1, e2, hQ⟩ := T_overtaken (L := L) hk hI 
  have e0 := y_keep h87 e1
  have e1 : z_cI 6 120 [.inr (.inr (some 6))] (z_mk L Dh S R nx sl) = _ := e1
  have e2 : z_cI 4 212 [.inr (.inr (some 52))] (z_mk L D' S1 R' nx' sl') = _ := e2
  simp only [y_o6, z_bs, e1, y_o52, e0, e2, z_iT]
  exact hon _ _ _ _ _ hQ
theorem U_40 (hL : L ≤ 3584) (hp : p + 6 < L) (hk : kq < 90000) (hI : I_all c0 s0 kq Dh S R nx sl) (hon : y_on L c0 p kq s0) : ∃ h' : z_H, L233_33 (some 0) (some 6) (some 52) (nI p) 40 (z_mk L Dh S R nx sl) = some (1, h') ∧ h'.1 ≤ 87 + 6 * 512 ∧ h'.2.1 ≤ c0 + 700 * 512 := by
  have h87 := hI.2.2.2.1
  rw [E233_33_40 _ _ _ _ _ _ rfl]
  obtain ⟨r, D', S1, S2, R', nx', sl', e1, e2, hQ⟩ := T_count (L := L) hI (S 0 (p + 1))
  have e0 := y_keep h87 e1
  have e1 : z_cI 3 121 [.inr (.inr (some 6)), .inl (S 0 (p + 1))] (z_mk L Dh S R nx sl) = _ := e1
  have e2 : z_cI 2 215 [.inr (.inr (some 52)), .inl (S 0 (p + 1))] (z_mk L D' S1 R' nx' sl') = _ := e2
  simp only [y_k1 hp hL, y_o6, z_bs, e1, y_o52, e0, e2, z_iT]
  exact hon _ _ _ _ _ hQ
theorem U_all (hL : L ≤ 3584) (hp : p + 6 < L) (hk : kq < 90000) (hI : I_all c0 s0 kq Dh S R nx sl) (hon : y_on L c0 p kq s0) (w : Int32) : ∃ h' : z_H, L233_33 (some 0) (some 6) (some 52) (nI p) w (z_mk L Dh S R nx sl) = some (1, h') ∧ h'.1 ≤ 87 + 6 * 512 ∧ h'.2.1 ≤ c0 + 700 * 512 := by
  by_cases c : w.toInt < 0 ∨ 40 < w.toInt
  · rw [E233_33_d _ _ _ _ _ _ c]
    exact hon _ _ _ _ _ (I_all_up hI)
  · obtain ⟨q, hq, rfl⟩ : ∃ q : Nat, q ≤ 40 ∧ w = nI q := ⟨w.toInt.toNat, by omega, by rw [z_eq, z_nI (by omega)]; omega⟩
    clear c
    rcases (show q = 0 ∨ q = 1 ∨ q = 2 ∨ q = 3 ∨ q = 4 ∨ q = 5 ∨ q = 6 ∨ q = 7 ∨ q = 8 ∨ q = 9 ∨ q = 10 ∨ q = 11 ∨ q = 12 ∨ q = 13 ∨ q = 14 ∨ q = 15 ∨ q = 16 ∨ q = 17 ∨ q = 18 ∨ q = 19 ∨ q = 20 ∨ q = 21 ∨ q = 22 ∨ q = 23 ∨ q = 24 ∨ q = 25 ∨ q = 26 ∨ q = 27 ∨ q = 28 ∨ q = 29 ∨ q = 30 ∨ q = 31 ∨ q = 32 ∨ q = 33 ∨ q = 34 ∨ q = 35 ∨ q = 36 ∨ q = 37 ∨ q = 38 ∨ q = 39 ∨ q = 40 by omega) with rfl | rfl | rfl | rfl | rfl | rfl | rfl | rfl | rfl | rfl | rfl | rfl | rfl | rfl | rfl | rfl | rfl | rfl | rfl | rfl | rfl | rfl | rfl | rfl | rfl | rfl | rfl | rfl | rfl | rfl | rfl | rfl | rfl | rfl | rfl | rfl | rfl | rfl | rfl | rfl | rfl
    · exact U_0 hL hp hk hI hon
    · exact U_1 hL hp hk hI hon
    · exact U_2 hL hp hk hI hon
    · exact U_3 hL hp hk hI hon
    · exact U_4 hL hp hk hI hon
    · exact U_5 hL hp hk hI hon
    · exact U_6 hL hp hk hI hon
    · exact U_7 hL hp hk hI hon
    · exact U_8 hL hp hk hI hon
    · exact U_9 hL hp hk hI hon
    · exact U_10 hL hp hk hI hon
    · exact U_11 hL hp hk hI hon
    · exact U_12 hL hp hk hI hon
    · exact U_13 hL hp hk hI hon
    · exact U_14 hL hp hk hI hon
    · exact U_15 hL hp hk hI hon
    · exact U_16 hL hp hk hI hon
    · exact U_17 hL hp hk hI hon
    · exact U_18 hL hp hk hI hon
    · exact U_19 hL hp hk hI hon
    · exact U_20 hL hp hk hI hon
    · exact U_21 hL hp hk hI hon
    · exact U_22 hL hp hk hI hon
    · exact U_23 hL hp hk hI hon
    · exact U_24 hL hp hk hI hon
    · exact U_25 hL hp hk hI hon
    · exact U_26 hL hp hk hI hon
    · exact U_27 hL hp hk hI hon
    · exact U_28 hL hp hk hI hon
    · exact U_29 hL hp hk hI hon
    · exact U_30 hL hp hk hI hon
    · exact U_31 hL hp hk hI hon
    · exact U_32 hL hp hk hI hon
    · exact U_33 hL hp hk hI hon
    · exact U_34 hL hp hk hI hon
    · exact U_35 hL hp hk hI hon
    · exact U_36 hL hp hk hI hon
    · exact U_37 hL hp hk hI hon
    · exact U_38 hL hp hk hI hon
    · exact U_39 hL hp hk hI hon
    · exact U_40 hL hp hk hI hon
theorem y_m7 (hL : L ≤ 3584) : (nI L - 7 : Int32).toInt = (L : Int) - 7 := by
  have := y_subI (t := L) (l := 7) (by omega) (by omega)
  exact this
/-- the law's loop -/
theorem U_loop (hL : L ≤ 3584) : ∀ (j kq : Nat), kq + j = 512 → ∀ (Dh : Nat → z_Sh) (S : Nat → Nat → Int32) (R : Nat → Nat → Option Nat) (nx sl : Nat), I_all c0 s0 kq Dh S R nx sl → ∃ h' : z_H, L233_18 (some 0) (some 6) (some 52) (nI (7 * kq)) (z_mk L Dh S R nx sl) = some (1, h') ∧ h'.1 ≤ 87 + 6 * 512 ∧ h'.2.1 ≤ c0 + 700 * 512 := by
  intro j
  induction j with
  | zero =>
    intro kq hk Dh S R nx sl hI
    have ek : kq = 512 := by omega
    subst ek
    rw [E233_18, y_n0 hL]
    simp only [z_bs]
    rw [if_pos (z_lt.mpr (by rw [y_m7 hL, z_nI (by omega)]; omega))]
    exact ⟨_, rfl, hI.2.2.2.2.1, hI.2.2.2.2.2⟩
  | succ j ih =>
    intro kq hk Dh S R nx sl hI
    rw [E233_18, y_n0 hL]
    simp only [z_bs]
    by_cases c : (nI L - 7 : Int32) < nI (7 * kq)
    · rw [if_pos c]
      refine ⟨_, rfl, Nat.le_trans hI.2.2.2.2.1 (by omega), Nat.le_trans hI.2.2.2.2.2 (by omega)⟩
    · rw [if_neg c]
      have c := Int32.not_lt.mp c
      have c := z_le.mp c
      rw [y_m7 hL, z_nI (by omega)] at c
      rw [y_k0 (show 7 * kq < L by omega) hL]
      simp only [z_bs]
      refine U_all hL (by omega) (by omega) hI (fun Dh S R nx sl hI => ?_) _
      rw [show nI (7 * kq) + 7 = nI (7 * (kq + 1)) from y_pkk (7 * kq) 7]
      exact ih (kq + 1) (by omega) Dh S R nx sl hI
end ZUC
