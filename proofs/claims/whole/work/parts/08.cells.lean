/-! instructions that touch cells, over the small machine's states -/
section ZC
variable {p : Program} {l : Launch} {e : Env} {R : Room} {s : State} {m : MethodId} {args : Array Value} {below : List Frame} {meth : Method} {c : Code} {H : Heap} {locs : List Loc} {cells slots : Nat} {Q : State → Prop}
variable {E : z_Env} {y pc : Nat} {h : z_H} {ls : Array Slot} {rest : List Value}
theorem z_KK (hS : z_St E) (hw : (e_s E).WarmedH s.vm) : va_K (e_C E, e_I E) vwCl [] s := ⟨fun k q hq => u_Kn_moved hw.alike (hS.2.1 k q hq), fun k q hk => by simp at hk⟩
theorem z_lt12 {ci : Nat} {r : vw_C} (hr : vwCl[ci]? = some r) : ci < 12 ∧ r = z_vc ci := by
  have h1 : ci < 12 := (List.getElem?_eq_some_iff.mp hr).1
  exact ⟨h1, Option.some.inj (hr.symm.trans (z_vcA ci h1).1)⟩
theorem z_lay (hS : z_St E) (hw : (e_s E).WarmedH s.vm) {ci : Nat} (hc : ci < 12) : ∀ w ∈ u_ws (z_vc ci).1 (z_T ci) (z_N ci), w.before args s = true := fun w hm => z_word hS hw (z_layA ci hc w hm).1 (z_layA ci hc w hm).2 args
/-- where a thing of ours stands -/
theorem z_obj (ok : z_ok E h H) {a ci : Nat} {fs : List z_V} (hc : ci < 12) (ha : h.2.2 a = .inr (.inr (ci, fs))) : 6 ≤ a ∧ a < h.1 ∧ a ≠ 5 ∧ z_B E a = z_base E + (a - 6) ∧ t_OB (z_B E a) (e_C E ci) (z_N ci) (e_I E ci) H (vp_V (fs.map (z_tv E))) := by
  have hadr := z_adr ok (by rw [ha]; exact z_jkr)
  obtain ⟨o1, o2, o3, o4, o5, o6⟩ := ok
  rcases hadr with h6 | ⟨h6, hlt⟩
  · have hro := o5 a h6
    rw [ha] at hro
    rcases (show a = 0 ∨ a = 1 ∨ a = 2 ∨ a = 3 ∨ a = 4 ∨ a = 5 by omega) with e | e | e | e | e | e <;> subst e
    · cases hro
    · cases hro
    · cases hro
    · have := (Prod.mk.inj (Sum.inr.inj (Sum.inr.inj hro))).1
      omega
    · cases hro
    · cases hro
  · have hB : z_B E a = z_base E + (a - 6) := by unfold z_B; rw [if_neg (by omega)]
    have hk := o4 a h6 hlt
    rw [ha] at hk
    obtain ⟨r, h1, h2⟩ := hk
    obtain ⟨-, rfl⟩ := z_lt12 h1
    exact ⟨h6, hlt, by omega, hB, by rw [hB]; exact h2⟩
theorem z_str3 (ok : z_ok E h H) {a ci : Nat} {fs : List z_V} (hc : 12 ≤ ci) (ha : h.2.2 a = .inr (.inr (ci, fs))) : a = 3 ∧ ci = 12 ∧ fs = [.inr (.inr (some 4)), .inl 0] := by
  have hadr := z_adr ok (by rw [ha]; exact z_jkr)
  obtain ⟨o1, o2, o3, o4, o5, o6⟩ := ok
  rcases hadr with h6 | ⟨h6, hlt⟩
  · have hro := o5 a h6
    rw [ha] at hro
    rcases (show a = 0 ∨ a = 1 ∨ a = 2 ∨ a = 3 ∨ a = 4 ∨ a = 5 by omega) with e | e | e | e | e | e <;> subst e
    · cases hro
    · cases hro
    · cases hro
    · obtain ⟨e1, e2⟩ := Prod.mk.inj (Sum.inr.inj (Sum.inr.inj hro))
      exact ⟨rfl, e1, e2⟩
    · cases hro
    · cases hro
  · have hk := o4 a h6 hlt
    rw [ha] at hk
    obtain ⟨r, h1, h2⟩ := hk
    have := (z_lt12 h1).1
    omega
theorem z_rv_ne {a : Nat} (ha : a ≠ 5) : z_rv E (some a) = .ref (z_B E a) := by show (if a = 5 then e_v E else .ref (z_B E a)) = _; rw [if_neg ha]
theorem z_getf (hS : z_St E) (C : z_Cx E y p s m meth c) (ok : z_ok E h H) {idx ci k ty : Nat} {fin : Bool} {a : Nat} {fs : List z_V} {v : z_V} (hf : z_fld y idx = some (ci, k, ty, fin)) (ha : h.2.2 a = .inr (.inr (ci, fs))) (hv : fs[k]? = some v) (hdg : decode (z_bc y) pc = .ok (.getfield idx, 3))
    (kk : W p l e R s m args below meth c H locs cells slots Q (F0 m (pc + 3) ls (z_tv E v :: rest))) : W p l e R s m args below meth c H locs cells slots Q (F0 m pc ls (z_rv E (some a) :: rest)) := by
  obtain ⟨hx, hb, hml, hown, hw, -⟩ := id C
  rcases Nat.lt_or_ge ci 12 with hc | hc
  · obtain ⟨h1, h2, h3⟩ := z_tkey z_okFA hf
    simp only [h2, h3] at h1
    obtain ⟨f1, f2, f3, f4, f5⟩ := h1 hc
    obtain ⟨q1, q2, q3, q4, q5⟩ := z_obj ok hc ha
    rw [z_rv_ne q3]
    have hP : va_P (e_C E, e_I E) vwCl [(z_B E a, .inr (ci, fs.map (z_tv E)))] H := fun i x hi => by
      have hz : i < 1 := (List.getElem?_eq_some_iff.mp hi).1
      rw [show i = 0 by omega] at hi
      cases hi
      exact ⟨z_vc ci, (z_vcA ci hc).1, q5⟩
    exact va_get (C := (z_vc ci).1) (T := z_T ci) (N := z_N ci) (ref := z_own ci) (index := idx) hx hb (z_lay hS hw hc) (fun _ h => h) hown (z_KK hS hw) hP 0 rfl (z_vcA ci hc).1 k f3 (z_word hS hw f1 rfl args) (fun x hh => by rw [← f2]; exact hh) (v := z_tv E v) (by rw [List.getElem?_map, hv]; rfl) hdg kk
  · obtain ⟨rfl, rfl, rfl⟩ := z_str3 ok hc ha
    obtain ⟨h1, h2, h3⟩ := z_tkey z_okF12 hf
    simp only [h2, h3] at h1
    obtain ⟨-, h1⟩ := h1 (by decide)
    rw [z_rv_ne (by decide)]
    obtain ⟨-, -, -, -, -, -, -, -, hv1, hv2, -⟩ := id hS
    have hB3 : z_B E 3 = e_p E 3 := rfl
    rw [hB3]
    rcases h1 with ⟨rfl, rfl, hl⟩ | ⟨rfl, rfl, hl⟩
    · cases hv
      obtain ⟨cf, kf, fi, f, cell, g1, g2, g3, g4, g5, g6⟩ := va_OF.moved hw.alike hv1
      exact W.getf hx hb hown (z_word hS hw hl rfl args) g1 g2 (by rw [ok.2.2.1 _ (Nat.not_le.mp g6)]; exact g3) g4 g5 rfl rfl hdg kk
    · cases hv
      obtain ⟨cf, kf, fi, f, cell, g1, g2, g3, g4, g5, g6⟩ := va_OF.moved hw.alike hv2
      exact W.getf hx hb hown (z_word hS hw hl rfl args) g1 g2 (by rw [ok.2.2.1 _ (Nat.not_le.mp g6)]; exact g3) g4 g5 rfl rfl hdg kk
/-- a value that a field of a kind may have -/
def z_may (ty : Nat) (v : z_V) : Prop := match v with
  | .inl x => ty = 0 ∨ (ty = 1 ∧ (x = 0 ∨ x = 1))
  | .inr (.inl _) => False
  | .inr (.inr _) => ty = 2
theorem z_fit (hS : z_St E) {ty : Nat} {d : String} {v : z_V} (ho : z_tyOk ty d = true) (hm : z_may ty v) : ∃ ft, parseFieldDescriptor d = some ft ∧ narrow ft (z_tv E v) = z_tv E v ∧ fits ft (z_tv E v) = true := by
  unfold z_tyOk at ho
  split at ho
  case h_2 => cases ho
  case h_1 ft hft =>
    refine ⟨ft, hft, ?_⟩
    rcases v with x | x | r
    · rcases hm with rfl | ⟨rfl, hx⟩
      · have : ft = .int := by simpa using ho
        subst this
        exact ⟨rfl, rfl⟩
      · have : ft = .boolean := by simpa using ho
        subst this
        rcases hx with rfl | rfl
        · show narrow .boolean (.int 0) = .int 0 ∧ fits .boolean (.int 0) = true
          exact ⟨by decide, by decide⟩
        · show narrow .boolean (.int 1) = .int 1 ∧ fits .boolean (.int 1) = true
          exact ⟨by decide, by decide⟩
    · exact hm.elim
    · have h2 : ty = 2 := hm
      subst h2
      have hr : ft.isReference = true := by simpa using ho
      obtain ⟨-, -, -, -, -, -, -, -, -, -, -, -, -, -, -, hp⟩ := hS
      have hz : z_rv E r = .null ∨ ∃ t, z_rv E r = .ref t := by
        cases r with
        | none => exact Or.inl rfl
        | some a =>
          unfold z_rv
          by_cases ha : a = 5
          · simp only [if_pos ha]; exact hp
          · simp only [if_neg ha]; exact Or.inr ⟨_, rfl⟩
      show narrow ft (z_rv E r) = z_rv E r ∧ fits ft (z_rv E r) = true
      rcases hz with hz | ⟨t, hz⟩ <;> rw [hz] <;> cases ft <;> first | exact ⟨rfl, rfl⟩ | (simp [FieldType.isReference] at hr)
theorem z_putf (hS : z_St E) (C : z_Cx E y p s m meth c) (ok : z_ok E h H) {idx ci k ty : Nat} {fin : Bool} {a : Nat} {fs : List z_V} {v : z_V} (hf : z_fld y idx = some (ci, k, ty, fin)) (hc : ci < 12) (ha : h.2.2 a = .inr (.inr (ci, fs))) (hkl : k < fs.length) (hm : z_may ty v) (hfin : fin = true → z_kn y = 2 ∧ ci = z_oi y) (hy : y < 234) (hdg : decode (z_bc y) pc = .ok (.putfield idx, 3))
    (kk : ∀ (H1 : Heap) (i : Nat), z_ok E (z_put h a (.inr (.inr (ci, fs.set k v)))) H1 → W p l e R s m args below meth c H1 (locs ++ [⟨z_B E a, i⟩]) cells slots Q (F0 m (pc + 3) ls rest)) : W p l e R s m args below meth c H locs cells slots Q (F0 m pc ls (z_tv E v :: z_rv E (some a) :: rest)) := by
  obtain ⟨hx, hb, hml, hown, hw, hlk, hnm, hrt⟩ := id C
  obtain ⟨h1, h2, h3⟩ := z_tkey z_okFA hf
  simp only [h2, h3] at h1
  obtain ⟨f1, f2, f3, f4, f5⟩ := h1 hc
  obtain ⟨q1, q2, q3, q4, cell, g1, g2, g3, g4⟩ := z_obj ok hc ha
  rw [z_rv_ne q3]
  obtain ⟨ft, hd, hn, hfit⟩ := z_fit hS f5 hm
  have hts := z_lay (args := args) hS hw hc
  have hKK := z_KK hS hw
  have hap := va_apart (own := z_own ci) hts (fun _ h => h) (z_ft ci) (fun j hj => (z_ftA ci hc j hj).1) (z_vcA ci hc).2.2.1 hKK (z_vcA ci hc).1
  obtain ⟨hSl, hfc, kC, hkC, hkind⟩ := hKK.1 ci _ (z_vcA ci hc).1
  obtain ⟨cf, kf, fi, f, hi, hsl⟩ := hSl k f3
  have hlay := hts _ (u_in_lay f3)
  have hst := (u_facts hfc hkC (u_lays hts (fun _ h => h) f3) hi).1
  have hsame : s.fieldFound? (z_own ci) (z_T ci k).2.1 (z_T ci k).2.2.1 = some (cf, kf, fi, f) := by rw [← f2]; exact hi
  have fin' : ∀ H' : Heap, H'[z_B E a]? = some (cell.setSlot f.slot (z_tv E v)) → H'.size = H.size → (∀ q, q ≠ z_B E a → H'[q]? = H[q]?) → z_ok E (z_put h a (.inr (.inr (ci, fs.set k v)))) H' := by
    intro H' e1 e2 e3
    have hsl' : f.slot = e_I E ci k := hsl
    rw [hsl'] at e1
    refine z_ok_put ok q1 q2 e2 (fun q hq => e3 q (by rw [q4]; exact hq)) ⟨z_vc ci, (z_vcA ci hc).1, ?_⟩
    rw [← q4]
    refine t_OB.to (V := updV (vp_V (fs.map (z_tv E))) k (z_tv E v)) ⟨_, e1, g2, g3, t_set g4 hap f3 (z_tv E v)⟩ (fun j _ => ?_)
    rw [vp_updV_set (by simpa using hkl), List.map_set]
  unfold u_lay at hlay
  by_cases hfi : fin = true
  · rw [if_pos (by rw [f4]; exact hfi)] at hlay
    obtain ⟨hk2, hco⟩ := hfin hfi
    have hcf : m.cls = cf := by
      obtain ⟨_, _, c', _, _, _, -, -, hf', -, -, -, hown2, -⟩ := Cond.laysFinal_spec hlay
      have e1 : c' = cf := by have := hi.symm.trans hf'; simp at this; exact this.1.symm
      rw [f2, hco] at hown2
      rw [← e1]; exact Option.some.inj (hown.symm.trans hown2)
    have hin : meth.name = "<init>" := hnm hk2
    have h6 := u_fits hfc hkC hkind (Or.inr hlay) hi hd hn hfit
    exact W.putFinK hx hb hown (z_word hS hw f1 rfl args) hsame hst hcf hin (by rw [g2]; exact h6) g1 g3 (by rw [hsl]; exact k2_hasslot (g4 k f3)) rfl rfl hdg fun H' e1 e2 e3 => kk H' _ (fin' H' e1 e2 e3)
  · rw [if_neg (by rw [f4]; exact hfi)] at hlay
    have h6 := u_store hfc hkC hkind hlay hi hd hn hfit
    exact W.putK hx hb (f := f) ⟨hown, z_word hS hw f1 rfl args, ⟨_, _, _, hsame⟩, hst⟩ (by rw [g2]; exact h6) g1 g3 (by rw [hsl]; exact k2_hasslot (g4 k f3)) rfl rfl hdg fun H' e1 e2 e3 => kk H' _ (fin' H' e1 e2 e3)
theorem z_in_iff {i : Int32} {n : Nat} : z_in i n = true ↔ ¬ (i < 0 ∨ n ≤ i.toNatClampNeg) := by
  unfold z_in
  rw [Bool.and_eq_true, decide_eq_true_iff, decide_eq_true_iff]
  constructor
  · rintro ⟨h1, h2⟩ (h3 | h3)
    · exact absurd h1 (Int32.not_le.mpr h3)
    · omega
  · intro h
    exact ⟨Int32.not_lt.mp fun q => h (Or.inl q), Nat.not_le.mp fun q => h (Or.inr q)⟩
theorem z_ldi (hS : z_St E) (C : z_Cx E y p s m meth c) (ok : z_ok E h H) {r : Option Nat} {i x : Int32} (hl : z_ldI h r i = some x) (hdg : decode (z_bc y) pc = .ok (.iaload, 1)) (kk : W p l e R s m args below meth c H locs cells slots Q (F0 m (pc + 1) ls (.int x :: rest))) : W p l e R s m args below meth c H locs cells slots Q (F0 m pc ls (.int i :: z_rv E r :: rest)) := by
  obtain ⟨hx, hb, hml, hown, hw, -⟩ := id C
  unfold z_ldI at hl
  split at hl
  case h_1 => cases hl
  case h_2 a =>
    split at hl
    case h_2 => cases hl
    case h_1 t n f ha =>
      split at hl
      case isFalse => cases hl
      case isTrue hc =>
        cases hl
        obtain ⟨cell, t', g0, g1, g2, g3, g4, g5, g6, g7, g8⟩ := z_rdI hS ok hw ha (by omega)
        have ht : t' = 0 := by omega
        subst ht
        have hin := z_in_iff.mp hc.2
        have hlt : i.toNatClampNeg < n := Nat.not_le.mp fun q => hin (Or.inr q)
        rw [z_rv_ne g0]
        exact W.iald hx hb g3 g4 g5 (fun q => q.elim (fun z => hin (Or.inl z)) (fun z => by omega)) (g8 _ hlt) rfl rfl hdg kk
theorem z_ldb (hS : z_St E) (C : z_Cx E y p s m meth c) (ok : z_ok E h H) {r : Option Nat} {i x : Int32} (hl : z_ldB h r i = some x) (hdg : decode (z_bc y) pc = .ok (.baload, 1)) (kk : W p l e R s m args below meth c H locs cells slots Q (F0 m (pc + 1) ls (.int x :: rest))) : W p l e R s m args below meth c H locs cells slots Q (F0 m pc ls (.int i :: z_rv E r :: rest)) := by
  obtain ⟨hx, hb, hml, hown, hw, -⟩ := id C
  unfold z_ldB at hl
  split at hl
  case h_1 => cases hl
  case h_2 a =>
    split at hl
    case h_2 => cases hl
    case h_1 t n f ha =>
      split at hl
      case isFalse => cases hl
      case isTrue hc =>
        cases hl
        obtain ⟨cell, t', g0, g1, g2, g3, g4, g5, g6, g7, g8⟩ := z_rdI hS ok hw ha (by omega)
        have hin := z_in_iff.mp hc.2
        have hlt : i.toNatClampNeg < n := Nat.not_le.mp fun q => hin (Or.inr q)
        rw [z_rv_ne g0]
        rcases (show t' = 1 ∨ t' = 2 by omega) with rfl | rfl
        · exact W.zald hx hb g3 g4 g5 (fun q => q.elim (fun z => hin (Or.inl z)) (fun z => by omega)) (g8 _ hlt) rfl rfl hdg kk
        · exact W.bald hx hb g3 g4 g5 (fun q => q.elim (fun z => hin (Or.inl z)) (fun z => by omega)) (g8 _ hlt) rfl rfl hdg kk
end ZC
