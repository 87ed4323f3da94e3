section ZD
variable {p : Program} {l : Launch} {e : Env} {R : Room} {s : State} {m : MethodId} {args : Array Value} {below : List Frame} {meth : Method} {c : Code} {H : Heap} {locs : List Loc} {cells slots : Nat} {Q : State → Prop}
variable {E : z_Env} {y pc : Nat} {h : z_H} {ls : Array Slot} {rest : List Value}
theorem z_own6 (ok : z_ok E h H) {a : Nat} {x : z_C} (ha : h.2.2 a = x) (hj : x ≠ z_junk) (hr : ∀ k, k < 6 → z_ro E k ≠ x) : 6 ≤ a ∧ a < h.1 ∧ a ≠ 5 ∧ z_B E a = z_base E + (a - 6) ∧ z_okc E x (z_B E a) H := by
  have hadr := z_adr ok (by rw [ha]; exact hj)
  obtain ⟨o1, o2, o3, o4, o5, o6⟩ := ok
  rcases hadr with h6 | ⟨h6, hlt⟩
  · exact absurd ((o5 a h6).symm.trans ha) (hr a h6)
  · have hB : z_B E a = z_base E + (a - 6) := by unfold z_B; rw [if_neg (by omega)]
    have hk := o4 a h6 hlt
    rw [ha] at hk
    exact ⟨h6, hlt, by omega, hB, by rw [hB]; exact hk⟩
theorem z_roI {t n : Nat} {f : Nat → Int32} (ht : t < 3) : ∀ k, k < 6 → z_ro E k ≠ .inl (t, n, f) := by
  intro k hk e
  rcases (show k = 0 ∨ k = 1 ∨ k = 2 ∨ k = 3 ∨ k = 4 ∨ k = 5 by omega) with q | q | q | q | q | q <;> subst q
  · have := (Prod.mk.inj (Sum.inl.inj e)).1; omega
  · have := (Prod.mk.inj (Sum.inl.inj e)).1; omega
  · have := (Prod.mk.inj (Sum.inl.inj e)).1; omega
  · cases e
  · have := (Prod.mk.inj (Sum.inl.inj e)).1; omega
  · have := (Prod.mk.inj (Sum.inl.inj e)).1; omega
theorem z_roR {t n : Nat} {f : Nat → Option Nat} : ∀ k, k < 6 → z_ro E k ≠ .inr (.inl (t, n, f)) := by
  intro k hk e
  rcases (show k = 0 ∨ k = 1 ∨ k = 2 ∨ k = 3 ∨ k = 4 ∨ k = 5 by omega) with q | q | q | q | q | q <;> subst q
  · cases e
  · cases e
  · cases e
  · cases (Sum.inr.inj e)
  · cases e
  · cases e
theorem z_arrA (hS : z_St E) (hw : (e_s E).WarmedH s.vm) {t : Nat} (ht : t < 6) : ArrOfT s (e_A E t) (z_aty t) ∧ va_RA s (e_A E t) (z_aty t) := ⟨arrOfT_moved hw.alike (hS.2.2.1 t ht).1, (hS.2.2.1 t ht).2.moved hw.alike⟩
theorem z_updI (f : Nat → Int32) (k : Nat) (x : Int32) : updV (fun j => Value.int (f j)) k (.int x) = fun j => .int (z_upi f k x j) := by
  funext j
  unfold updV z_upi
  by_cases hj : j = k
  · rw [if_pos hj, if_pos hj]
  · rw [if_neg hj, if_neg hj]
theorem z_sti (hS : z_St E) (C : z_Cx E y p s m meth c) (ok : z_ok E h H) {r : Option Nat} {i x : Int32} {h' : z_H} (hl : z_stI h r i x = some h') (hdg : decode (z_bc y) pc = .ok (.iastore, 1))
    (kk : ∀ (H1 : Heap) (q : Loc), z_base E ≤ q.base → z_ok E h' H1 → h'.1 = h.1 → h'.2.1 = h.2.1 → W p l e R s m args below meth c H1 (locs ++ [q]) cells slots Q (F0 m (pc + 1) ls rest)) : W p l e R s m args below meth c H locs cells slots Q (F0 m pc ls (.int x :: .int i :: z_rv E r :: rest)) := by
  obtain ⟨hx, hb, hml, hown, hw, -⟩ := id C
  unfold z_stI at hl
  split at hl
  case h_1 => cases hl
  case h_2 a =>
    split at hl
    case h_2 => cases hl
    case h_1 t n f ha =>
      split at hl
      case isFalse => cases hl
      case isTrue hc =>
        cases hl
        obtain ⟨rfl, hin⟩ := hc
        have hin := z_in_iff.mp hin
        obtain ⟨q1, q2, q3, q4, q5, q6⟩ := z_own6 ok ha (z_jk (by decide)) (z_roI (by decide))
        rw [z_rv_ne q3]
        refine W.iast hx hb q6 ((z_arrA hS hw (t := 0) (by decide)).1 n _) (fun q => by cases q) (by rw [arrV_size]; exact hin) rfl rfl hdg fun H1 e1 e2 e3 => kk H1 _ (by show z_base E ≤ z_B E a; omega) (z_ok_put ok q1 q2 e2 (fun q hq => e3 q (by rw [q4]; exact hq)) ⟨by decide, ?_⟩) rfl rfl
        rw [← q4, e1, arrV_store, z_updI]
theorem z_stb (hS : z_St E) (C : z_Cx E y p s m meth c) (ok : z_ok E h H) {r : Option Nat} {i x : Int32} {h' : z_H} (hl : z_stB h r i x = some h') (hdg : decode (z_bc y) pc = .ok (.bastore, 1))
    (kk : ∀ (H1 : Heap) (q : Loc), z_base E ≤ q.base → z_ok E h' H1 → h'.1 = h.1 → h'.2.1 = h.2.1 → W p l e R s m args below meth c H1 (locs ++ [q]) cells slots Q (F0 m (pc + 1) ls rest)) : W p l e R s m args below meth c H locs cells slots Q (F0 m pc ls (.int x :: .int i :: z_rv E r :: rest)) := by
  obtain ⟨hx, hb, hml, hown, hw, -⟩ := id C
  unfold z_stB at hl
  split at hl
  case h_1 => cases hl
  case h_2 a =>
    split at hl
    case h_2 => cases hl
    case h_1 t n f ha =>
      split at hl
      case isTrue hc =>
        cases hl
        obtain ⟨rfl, hx01, hin⟩ := hc
        have hin := z_in_iff.mp hin
        obtain ⟨q1, q2, q3, q4, q5, q6⟩ := z_own6 ok ha (z_jk (by decide)) (z_roI (by decide))
        rw [z_rv_ne q3]
        refine W.zast hx hb q6 ((z_arrA hS hw (t := 1) (by decide)).1 n _) (fun q => by cases q) (by rw [arrV_size]; exact hin) rfl rfl hdg fun H1 e1 e2 e3 => kk H1 _ (by show z_base E ≤ z_B E a; omega) (z_ok_put ok q1 q2 e2 (fun q hq => e3 q (by rw [q4]; exact hq)) ⟨by decide, ?_⟩) rfl rfl
        have hn : narrow .boolean (.int x) = .int x := by rcases hx01 with rfl | rfl <;> decide
        rw [← q4, e1, hn, arrV_store, z_updI]
      case isFalse =>
        split at hl
        case isFalse => cases hl
        case isTrue hc =>
          cases hl
          obtain ⟨rfl, hin⟩ := hc
          have hin := z_in_iff.mp hin
          obtain ⟨q1, q2, q3, q4, q5, q6⟩ := z_own6 ok ha (z_jk (by decide)) (z_roI (by decide))
          rw [z_rv_ne q3]
          refine W.bast hx hb q6 ((z_arrA hS hw (t := 2) (by decide)).1 n _) (fun q => by cases q) (by rw [arrV_size]; exact hin) rfl rfl hdg fun H1 e1 e2 e3 => kk H1 _ (by show z_base E ≤ z_B E a; omega) (z_ok_put ok q1 q2 e2 (fun q hq => e3 q (by rw [q4]; exact hq)) ⟨by decide, ?_⟩) rfl rfl
          have hn : narrow .byte (.int x) = .int x.toInt8.toInt32 := rfl
          rw [← q4, e1, hn, arrV_store, z_updI]
theorem z_ldr (hS : z_St E) (C : z_Cx E y p s m meth c) (ok : z_ok E h H) {r x : Option Nat} {i : Int32} (hl : z_ldR h r i = some x) (hdg : decode (z_bc y) pc = .ok (.aaload, 1)) (kk : W p l e R s m args below meth c H locs cells slots Q (F0 m (pc + 1) ls (z_rv E x :: rest))) : W p l e R s m args below meth c H locs cells slots Q (F0 m pc ls (.int i :: z_rv E r :: rest)) := by
  obtain ⟨hx, hb, hml, hown, hw, -⟩ := id C
  unfold z_ldR at hl
  split at hl
  case h_1 => cases hl
  case h_2 a =>
    split at hl
    case h_2 => cases hl
    case h_1 t n f ha =>
      split at hl
      case isFalse => cases hl
      case isTrue hin =>
        cases hl
        have hin := z_in_iff.mp hin
        have hlt : i.toNatClampNeg < n := Nat.not_le.mp fun q => hin (Or.inr q)
        obtain ⟨q1, q2, q3, q4, q5, q6, q7⟩ := z_own6 ok ha z_jkr z_roR
        rw [z_rv_ne q3]
        have hty : (z_aty t).isReference = true := by
          rcases (show t = 3 ∨ t = 4 ∨ t = 5 by omega) with rfl | rfl | rfl <;> rfl
        exact W.aald hx hb q7 ((z_arrA hS hw q6).1 n _) hty (fun q => by cases q) (by rw [arrV_size]; exact hin) (arrV_read _ _ hlt) rfl rfl hdg kk
theorem z_str' (hS : z_St E) (C : z_Cx E y p s m meth c) (ok : z_ok E h H) {r x : Option Nat} {i : Int32} {h' : z_H} (hl : z_stR h r i x = some h') (hdg : decode (z_bc y) pc = .ok (.aastore, 1))
    (kk : ∀ (H1 : Heap) (q : Loc), z_base E ≤ q.base → z_ok E h' H1 → h'.1 = h.1 → h'.2.1 = h.2.1 → W p l e R s m args below meth c H1 (locs ++ [q]) cells slots Q (F0 m (pc + 1) ls rest)) : W p l e R s m args below meth c H locs cells slots Q (F0 m pc ls (z_rv E x :: .int i :: z_rv E r :: rest)) := by
  obtain ⟨hx, hb, hml, hown, hw, -⟩ := id C
  unfold z_stR at hl
  split at hl
  case h_1 => cases hl
  case h_2 a =>
    split at hl
    case h_1 => cases hl
    case h_2 b =>
      split at hl
      case h_2 => cases hl
      case h_1 t n f ha =>
        split at hl
        case h_2 => cases hl
        case h_1 ci fs hbc =>
          split at hl
          case isFalse => cases hl
          case isTrue hc =>
            cases hl
            obtain ⟨ht, rfl, hin⟩ := hc
            have hin := z_in_iff.mp hin
            have hlt : i.toNatClampNeg < n := Nat.not_le.mp fun q => hin (Or.inr q)
            have h0 : ¬ i < 0 := fun q => hin (Or.inl q)
            have ht6 : t < 6 := by omega
            have hc12 : z_tc t < 12 := by rcases ht with rfl | rfl | rfl <;> decide
            obtain ⟨q1, q2, q3, q4, -, -, q7⟩ := z_own6 ok ha z_jkr z_roR
            obtain ⟨v1, v2, v3, v4, cv, g1, g2, g3, -⟩ := z_obj ok hc12 hbc
            rw [z_rv_ne q3, z_rv_ne v3]
            have hKn := (z_KK hS hw).1 (z_tc t) _ (z_vcA _ hc12).1
            have hcls := hKn.2
            have hnm : (z_vc (z_tc t)).1 = z_acl t := by rcases ht with rfl | rfl | rfl <;> rfl
            have hra := (z_arrA hS hw ht6).2
            rw [show z_aty t = .object (z_acl t) by rcases ht with rfl | rfl | rfl <;> rfl] at hra
            obtain ⟨kA, comp, k1, k2, k3, -⟩ := hra
            have hcomp : comp = e_C E (z_tc t) := by rw [← hnm] at k3; exact Option.some.inj (k3.symm.trans hcls.1)
            subst hcomp
            have hass := va_assign hcls
            obtain ⟨kC, hkC, -⟩ := hcls.2
            refine W.aast hx hb q7 (fun q h => by cases h) (fun h => by cases h) k1 k2 rfl hkC ⟨h0, by rw [arrV_size]; exact hlt⟩ g1 (fun q h => by rw [g3] at h; cases h) (by rw [g2]; exact hkC) (by rw [g2]; exact hass) rfl rfl hdg fun H1 e1 e2 e3 => kk H1 _ (by show z_base E ≤ z_B E a; omega) (z_ok_put ok q1 q2 e2 (fun q hq => e3 q (by rw [q4]; exact hq)) ⟨by omega, ht6, ?_⟩) rfl rfl
            rw [← q4, e1, arrV_store]
            congr 2
            funext j
            unfold updV z_upr
            by_cases hj : j = i.toNatClampNeg
            · rw [if_pos hj, if_pos hj, z_rv_ne v3]
            · rw [if_neg hj, if_neg hj]
theorem z_leni (hS : z_St E) (C : z_Cx E y p s m meth c) (ok : z_ok E h H) {r : Option Nat} {x : Int32} (hl : z_len h r = some x) (hdg : decode (z_bc y) pc = .ok (.arraylength, 1)) (kk : W p l e R s m args below meth c H locs cells slots Q (F0 m (pc + 1) ls (.int x :: rest))) : W p l e R s m args below meth c H locs cells slots Q (F0 m pc ls (z_rv E r :: rest)) := by
  obtain ⟨hx, hb, hml, hown, hw, -⟩ := id C
  unfold z_len at hl
  split at hl
  case h_1 => cases hl
  case h_2 a =>
    split at hl
    case h_3 => cases hl
    case h_1 t n f ha =>
      split at hl
      case isTrue => cases hl
      case isFalse ht =>
        cases hl
        obtain ⟨cell, t', g0, g1, g2, g3, g4, g5, g6, g7, g8⟩ := z_rdI hS ok hw ha ht
        rw [z_rv_ne g0]
        exact W.alen hx hb g3 g4 g7 rfl rfl hdg kk
    case h_2 t n f ha =>
      cases hl
      obtain ⟨q1, q2, q3, q4, q5, q6, q7⟩ := z_own6 ok ha z_jkr z_roR
      rw [z_rv_ne q3]
      exact W.alen hx hb q7 ((z_arrA hS hw q6).1 n _) (by rw [arrV_size]) rfl rfl hdg kk
theorem z_gets (hS : z_St E) (C : z_Cx E y p s m meth c) (ok : z_ok E h H) {idx : Nat} {q : Nat × Nat} (hq : z_sta y idx = some q) (hdg : decode (z_bc y) pc = .ok (.getstatic idx, 3)) (kk : W p l e R s m args below meth c H locs cells slots Q (F0 m (pc + 3) ls (z_tv E (z_sv q.1) :: rest))) : W p l e R s m args below meth c H locs cells slots Q (F0 m pc ls rest) := by
  obtain ⟨hx, hb, hml, hown, hw, -⟩ := id C
  obtain ⟨h1, h2, h3⟩ := z_tkey z_okS hq
  simp only [h2, h3] at h1
  obtain ⟨h4, hlk⟩ := h1
  obtain ⟨-, -, -, -, -, -, -, -, -, -, z0, z1, z2, z3, -⟩ := id hS
  have hz : va_Z (z_sC q.1) (z_sn q.1) (z_sd q.1) (z_tv E (z_sv q.1)) (fun q => z_base E ≤ q) s (e_s E).heap := by
    rcases (show q.1 = 0 ∨ q.1 = 1 ∨ q.1 = 2 ∨ q.1 = 3 by omega) with e | e | e | e <;> rw [e]
    · exact va_Z.moved hw.alike z0
    · exact va_Z.moved hw.alike z1
    · exact va_Z.moved hw.alike z2
    · exact va_Z.moved hw.alike z3
  obtain ⟨cf, kf, fi, f, a, cell, g1, g2, g3, g4, g5, g6, g7, g8⟩ := hz
  have hcell : H[a]? = some cell := by rw [ok.2.2.1 a (Nat.not_le.mp g8)]; exact g5
  rcases hlk with ⟨-, hlk⟩ | hlk
  · exact W.gets hx hb hown (z_word hS hw hlk rfl args) g1 g2 g3 g4 hcell (fun e => by rw [e] at g6; cases g6) g7 rfl hdg kk
  · have hn : va_Nw (.fieldLinkNest (z_own (z_oi y)) idx (z_sC q.1) (z_sn q.1) (z_sd q.1) "StuntSet") s := va_Nw.warmF hw (va_Nw.of rfl (hS.1 _ hlk))
    exact va_WgetsN hx hb hown (va_Nw.use rfl hn) g1 g2 g3 g4 hcell (fun e => by rw [e] at g6; cases g6) g7 rfl hdg kk
theorem z_newo (hS : z_St E) (C : z_Cx E y p s m meth c) (ok : z_ok E h H) {idx ci : Nat} (hq : z_cls y idx = some ci) (hc1 : cells + 1 ≤ R.cells) (hs1 : slots + (z_fN.getD ci []).length ≤ R.slots) (hdg : decode (z_bc y) pc = .ok (.new idx, 3))
    (kk : ∀ H1 : Heap, z_ok E (z_new ci h) H1 → W p l e R s m args below meth c H1 locs (cells + 1) (slots + (z_fN.getD ci []).length) Q (F0 m (pc + 3) ls (z_rv E (some h.1) :: rest))) : W p l e R s m args below meth c H locs cells slots Q (F0 m pc ls rest) := by
  obtain ⟨hx, hb, hml, hown, hw, -⟩ := id C
  obtain ⟨h1, h2, h3⟩ := z_tkey z_okCA hq
  simp only [h2, h3] at h1
  obtain ⟨hc12, hcl⟩ := h1
  obtain ⟨v1, v2, v3, v4, v5, v6⟩ := z_vcA ci hc12
  have hKn := (z_KK hS hw).1 ci _ v1
  rw [v4] at hs1 kk
  have h6 : h.1 ≠ 5 := by have := ok.2.1; omega
  have hsz : H.size = z_B E h.1 := by unfold z_B; rw [if_neg (by have := ok.2.1; omega)]; have := ok.1; have := ok.2.1; omega
  refine W.newcK hx hb hown (z_word hS hw hcl rfl args) (z_word hS hw v5 rfl args) (z_word hS hw v6 rfl args) rfl hdg hc1 hs1 (by rw [← v2]; exact hKn.2.1) rfl fun H1 kC hkC e1 e2 e3 => ?_
  have := kk H1 (z_ok_new ok e2 e3 ⟨z_vc ci, v1, (u_born (z_ft ci) (z_lay (args := args) hS hw hc12) (fun _ h => h) hKn hkC e1 (fun j hj => (z_ftA ci hc12 j hj).1)).to (fun j hj => ?_)⟩)
  · rw [z_rv_ne h6, ← hsz] at this
    exact this
  · obtain ⟨-, hd⟩ := z_ftA ci hc12 j hj
    have hjl : j < (z_fN.getD ci []).length := by rw [v4]; exact hj
    unfold vp_V
    rw [List.getD_eq_getElem?_getD, List.map_map, List.getElem?_map, List.getElem?_eq_getElem hjl]
    rw [List.getD_eq_getElem?_getD (l := z_fN.getD ci []), List.getElem?_eq_getElem hjl] at hd
    simp only [Option.getD_some] at hd
    rcases hd with ⟨d1, d2⟩ | ⟨d1, d2⟩
    · rw [d2, d1]; rfl
    · rw [d2]
      simp only [Option.map_some, Option.getD_some, Function.comp, z_dv, if_neg d1]
      rfl
theorem z_newi (hS : z_St E) (C : z_Cx E y p s m meth c) (ok : z_ok E h H) {at' : ArrayType} {t : Nat} {n : Int32} (hq : z_at at' = some t) (hn0 : 0 ≤ n) (hn : n.toNatClampNeg ≤ 100000) (hc1 : cells + 1 ≤ R.cells) (hs1 : slots + n.toNatClampNeg ≤ R.slots) (hdg : decode (z_bc y) pc = .ok (.newarray at', 2))
    (kk : ∀ H1 : Heap, z_ok E (z_nwI t n.toNatClampNeg h) H1 → W p l e R s m args below meth c H1 locs (cells + 1) (slots + n.toNatClampNeg) Q (F0 m (pc + 2) ls (z_rv E (some h.1) :: rest))) : W p l e R s m args below meth c H locs cells slots Q (F0 m pc ls (.int n :: rest)) := by
  obtain ⟨hx, hb, hml, hown, hw, -⟩ := id C
  have h6 : h.1 ≠ 5 := by have := ok.2.1; omega
  have hsz : H.size = z_B E h.1 := by unfold z_B; rw [if_neg (by have := ok.2.1; omega)]; have := ok.1; have := ok.2.1; omega
  have key : t < 3 ∧ newarray.typeOf at' = z_aty t ∧ Cond.arrayClass (newarray.typeOf at') ∈ lw_tbl ∧ defaultValue (newarray.typeOf at') = .int 0 ∧ componentBytes (newarray.typeOf at') ≤ 4 := by
    obtain ⟨k0, k1, k2⟩ := z_okRA
    cases at' <;> simp only [z_at, Option.some.injEq, reduceCtorEq] at hq <;> subst hq
    · exact ⟨by decide, rfl, k1, rfl, by decide⟩
    · exact ⟨by decide, rfl, k2, rfl, by decide⟩
    · exact ⟨by decide, rfl, k0, rfl, by decide⟩
  obtain ⟨k1, k2, k3, k4, k5⟩ := key
  refine va_newaK hx hb (word_at hw (Or.inr ⟨_, rfl⟩) (hS.1 _ k3)) (g := F0 m pc ls (.int n :: rest)) rfl hdg rfl (Int32.not_lt.mpr hn0) rfl (Nat.le_trans (Nat.mul_le_mul hn k5) (by decide)) hc1 hs1 rfl fun H1 cA e1 e2 e3 hAr hNm => ?_
  have hcA : cA = e_A E t := by
    have hra := (z_arrA hS hw (t := t) (by omega)).2
    rw [k2] at hNm
    have : s.vm.findClass ("[" ++ (z_aty t).toString) = some (e_A E t) := by
      rcases (show t = 0 ∨ t = 1 ∨ t = 2 by omega) with rfl | rfl | rfl <;> exact hra
    exact Option.some.inj (hNm.symm.trans this)
  subst hcA
  have := kk H1 (z_ok_new ok e2 e3 ⟨k1, by rw [e1, k4]⟩)
  rw [z_rv_ne h6, ← hsz] at this
  exact this
theorem z_newr (hS : z_St E) (C : z_Cx E y p s m meth c) (ok : z_ok E h H) {idx t : Nat} {n : Int32} (hq : z_anw y idx = some t) (hn0 : 0 ≤ n) (hn : n.toNatClampNeg ≤ 100000) (hc1 : cells + 1 ≤ R.cells) (hs1 : slots + n.toNatClampNeg ≤ R.slots) (hdg : decode (z_bc y) pc = .ok (.anewarray idx, 3))
    (kk : ∀ H1 : Heap, z_ok E (z_nwR t n.toNatClampNeg h) H1 → W p l e R s m args below meth c H1 locs (cells + 1) (slots + n.toNatClampNeg) Q (F0 m (pc + 3) ls (z_rv E (some h.1) :: rest))) : W p l e R s m args below meth c H locs cells slots Q (F0 m pc ls (.int n :: rest)) := by
  obtain ⟨hx, hb, hml, hown, hw, -⟩ := id C
  have h6 : h.1 ≠ 5 := by have := ok.2.1; omega
  have hsz : H.size = z_B E h.1 := by unfold z_B; rw [if_neg (by have := ok.2.1; omega)]; have := ok.1; have := ok.2.1; omega
  obtain ⟨h1, h2, h3⟩ := z_tkey z_okAA hq
  simp only [h2, h3] at h1
  obtain ⟨k1, k2, k3, k4⟩ := h1
  have hov : va_AO (z_acl t) s := va_AO.moved hw.alike (va_AO.of (hS.1 _ k4))
  refine W.anew hx hb hown (z_word hS hw k3 rfl args) (va_AO.use hov) (g := F0 m pc ls (.int n :: rest)) rfl hdg rfl (Int32.not_lt.mpr hn0) (by omega) hc1 hs1 fun cA kA comp f1 f2 f3 f4 => ?_
  have hcA : cA = e_A E t := by
    have hra := (z_arrA hS hw (t := t) (by omega)).2
    rw [show z_aty t = .object (z_acl t) by rcases (show t = 3 ∨ t = 4 ∨ t = 5 by omega) with rfl | rfl | rfl <;> rfl] at hra
    obtain ⟨_, _, -, -, -, r4⟩ := hra
    exact Option.some.inj (f1.symm.trans r4)
  subst hcA
  generalize hH1 : H.push ({ cls := e_A E t, slots := Array.replicate n.toNatClampNeg .null, vm := .none } : Cell) = H1
  have z1 : H1.size = H.size + 1 := by rw [← hH1, Array.size_push]
  have e1 : H1[H.size]? = some (arrV (e_A E t) n.toNatClampNeg (fun _ => .null)) := by rw [← hH1, Array.getElem?_push_size, ← arrV_new]
  have o1 : ∀ q : Nat, q < H.size → H1[q]? = H[q]? := fun q hq => by rw [← hH1, Array.getElem?_push, if_neg (Nat.ne_of_lt hq)]
  have := kk H1 (z_ok_new ok z1 o1 ⟨k1, k2, e1⟩)
  rw [z_rv_ne h6, ← hsz] at this
  exact this
end ZD
