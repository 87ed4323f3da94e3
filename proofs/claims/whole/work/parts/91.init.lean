section ZUD
/-! the heap at the start, as a list of its cells -/
def z_hl (L : Nat) (xs : Nat → Int32) (cs : List z_C) (sl : Nat) : z_H := (6 + cs.length, sl, fun a => if a < 6 then z_cel0 L xs a else cs.getD (a - 6) z_junk)
variable {L : Nat} {xs : Nat → Int32} {cs rs as : List z_C} {o c : z_C} {n sl sl' sl0 t q ci k ty : Nat} {fs : List z_V} {x : Option Nat} {i v : Int32}
theorem hl_0 : z_h0 L xs = z_hl L xs [] 0 := by
  unfold z_h0 z_hl
  refine Prod.ext rfl (Prod.ext rfl (funext fun a => ?_))
  show z_cel0 L xs a = if a < 6 then z_cel0 L xs a else z_junk
  by_cases c : a < 6
  · rw [if_pos c]
  · rw [if_neg c]
    unfold z_cel0
    rw [if_neg (by omega), if_neg (by omega), if_neg (by omega), if_neg (by omega), if_neg (by omega)]
theorem hl_1 : (z_hl L xs cs sl).1 = 6 + cs.length := rfl
theorem hl_app : ((6 + cs.length + 1, sl', z_upd (z_hl L xs cs sl).2.2 (6 + cs.length) c) : z_H) = z_hl L xs (cs ++ [c]) sl' := by
  unfold z_hl
  refine Prod.ext (by show 6 + cs.length + 1 = 6 + (cs ++ [c]).length; rw [List.length_append]; rfl) (Prod.ext rfl (funext fun a => ?_))
  show (if a = 6 + cs.length then c else if a < 6 then z_cel0 L xs a else cs.getD (a - 6) z_junk) = if a < 6 then z_cel0 L xs a else (cs ++ [c]).getD (a - 6) z_junk
  by_cases h1 : a = 6 + cs.length
  · rw [if_pos h1, if_neg (by omega), show a - 6 = cs.length by omega, List.getD_eq_getElem?_getD, List.getElem?_append_right (Nat.le_refl _), Nat.sub_self]
    rfl
  · rw [if_neg h1]
    by_cases h2 : a < 6
    · rw [if_pos h2, if_pos h2]
    · rw [if_neg h2, if_neg h2, List.getD_eq_getElem?_getD, List.getD_eq_getElem?_getD]
      by_cases h3 : a - 6 < cs.length
      · rw [List.getElem?_append_left h3]
      · rw [List.getElem?_append_right (by omega), List.getElem?_eq_none (by omega), List.getElem?_eq_none (by show 0 + 1 ≤ a - 6 - cs.length; omega)]
theorem hl_nwI : z_nwI t q (z_hl L xs cs sl) = z_hl L xs (cs ++ [.inl (t, q, fun _ => 0)]) (sl + q) := hl_app
theorem hl_nwR : z_nwR t q (z_hl L xs cs sl) = z_hl L xs (cs ++ [.inr (.inl (t, q, fun _ => none))]) (sl + q) := hl_app
theorem hl_new (hf : (z_fN.getD ci []).map z_dv = fs) (hq : (z_fN.getD ci []).length = q) : z_new ci (z_hl L xs cs sl) = z_hl L xs (cs ++ [.inr (.inr (ci, fs))]) (sl + q) := by
  rw [← hf, ← hq]
  exact hl_app
theorem hl_get (hn : 6 + cs.length = n) : (z_hl L xs (cs ++ o :: rs) sl).2.2 n = o := by
  show (if n < 6 then z_cel0 L xs n else (cs ++ o :: rs).getD (n - 6) z_junk) = o
  rw [if_neg (by omega), show n - 6 = cs.length by omega, List.getD_eq_getElem?_getD, List.getElem?_append_right (Nat.le_refl _), Nat.sub_self]
  rfl
theorem hl_put (hn : 6 + cs.length = n) : z_put (z_hl L xs (cs ++ o :: rs) sl) n c = z_hl L xs (cs ++ c :: rs) sl := by
  unfold z_put z_hl
  refine Prod.ext (by show 6 + (cs ++ o :: rs).length = 6 + (cs ++ c :: rs).length; rw [List.length_append, List.length_append]; rfl) (Prod.ext rfl (funext fun a => ?_))
  show (if a = n then c else if a < 6 then z_cel0 L xs a else (cs ++ o :: rs).getD (a - 6) z_junk) = if a < 6 then z_cel0 L xs a else (cs ++ c :: rs).getD (a - 6) z_junk
  by_cases h1 : a = n
  · rw [if_pos h1, if_neg (by omega), show a - 6 = cs.length by omega, List.getD_eq_getElem?_getD, List.getElem?_append_right (Nat.le_refl _), Nat.sub_self]
    rfl
  · rw [if_neg h1]
    by_cases h2 : a < 6
    · rw [if_pos h2, if_pos h2]
    · rw [if_neg h2, if_neg h2, List.getD_eq_getElem?_getD, List.getD_eq_getElem?_getD]
      by_cases h3 : a - 6 < cs.length
      · rw [List.getElem?_append_left h3, List.getElem?_append_left h3]
      · rw [List.getElem?_append_right (by omega), List.getElem?_append_right (by omega)]
        obtain ⟨w, hw⟩ : ∃ w, a - 6 - cs.length = w + 1 := ⟨a - 6 - cs.length - 1, by omega⟩
        rw [hw]
        rfl
theorem hl_pR (hn : 6 + cs.length = n) (hk : k < fs.length) : z_pR (z_hl L xs (cs ++ .inr (.inr (ci, fs)) :: rs) sl) (some n) ci k x = some (z_hl L xs (cs ++ .inr (.inr (ci, fs.set k (.inr (.inr x)))) :: rs) sl) := by
  have e := hl_get (L := L) (xs := xs) (o := .inr (.inr (ci, fs))) (rs := rs) (sl := sl) hn
  unfold z_pR
  simp only [e]
  rw [if_pos ⟨by trivial, hk⟩, hl_put hn]
theorem hl_pI (hn : 6 + cs.length = n) (hk : k < fs.length) (ht : ty = 0 ∨ v = 0 ∨ v = 1) : z_pI ty (z_hl L xs (cs ++ .inr (.inr (ci, fs)) :: rs) sl) (some n) ci k v = some (z_hl L xs (cs ++ .inr (.inr (ci, fs.set k (.inl v))) :: rs) sl) := by
  have e := hl_get (L := L) (xs := xs) (o := .inr (.inr (ci, fs))) (rs := rs) (sl := sl) hn
  unfold z_pI
  simp only [e]
  rw [if_pos ⟨by trivial, hk, ht⟩, hl_put hn]
theorem hl_as : z_hl L xs ((cs ++ o :: rs) ++ as) sl = z_hl L xs (cs ++ o :: (rs ++ as)) sl := by rw [List.append_assoc, List.cons_append]
theorem hl_ln (hn : 6 + cs.length = n) : (z_hl L xs (cs ++ o :: rs) sl).1 = n + 1 + rs.length := by
  rw [hl_1, List.length_append, List.length_cons]
  omega
variable {f : z_H → Option z_H} {r : Option z_H}
/-- an array is made and put into a field -/
theorem hl_mk (hn : 6 + cs.length = n) (hk : k < fs.length) : (z_pR (z_nwI t q (z_hl L xs (cs ++ .inr (.inr (ci, fs)) :: rs) sl)) (some n) ci k (some (z_hl L xs (cs ++ .inr (.inr (ci, fs)) :: rs) sl).1)).bind f = f (z_hl L xs (cs ++ .inr (.inr (ci, fs.set k (.inr (.inr (some (n + 1 + rs.length)))))) :: (rs ++ [.inl (t, q, fun _ => 0)])) (sl + q)) := by
  rw [hl_nwI, hl_as, hl_pR hn hk, hl_ln hn]
  rfl
theorem hl_mkR (hn : 6 + cs.length = n) (hk : k < fs.length) : (z_pR (z_nwR t q (z_hl L xs (cs ++ .inr (.inr (ci, fs)) :: rs) sl)) (some n) ci k (some (z_hl L xs (cs ++ .inr (.inr (ci, fs)) :: rs) sl).1)).bind f = f (z_hl L xs (cs ++ .inr (.inr (ci, fs.set k (.inr (.inr (some (n + 1 + rs.length)))))) :: (rs ++ [.inr (.inl (t, q, fun _ => none))])) (sl + q)) := by
  rw [hl_nwR, hl_as, hl_pR hn hk, hl_ln hn]
  rfl
theorem hl_pIb (hn : 6 + cs.length = n) (hk : k < fs.length) (ht : ty = 0 ∨ v = 0 ∨ v = 1) : (z_pI ty (z_hl L xs (cs ++ .inr (.inr (ci, fs)) :: rs) sl) (some n) ci k v).bind f = f (z_hl L xs (cs ++ .inr (.inr (ci, fs.set k (.inl v))) :: rs) sl) := by
  rw [hl_pI hn hk ht]
  rfl
theorem hl_pRb (hn : 6 + cs.length = n) (hk : k < fs.length) : (z_pR (z_hl L xs (cs ++ .inr (.inr (ci, fs)) :: rs) sl) (some n) ci k x).bind f = f (z_hl L xs (cs ++ .inr (.inr (ci, fs.set k (.inr (.inr x)))) :: rs) sl) := by
  rw [hl_pR hn hk]
  rfl
theorem hl_stI {g : Nat → Int32} (hn : 6 + cs.length = n) (hi : z_in i q = true) : z_stI (z_hl L xs (cs ++ .inl (0, q, g) :: rs) sl) (some n) i v = some (z_hl L xs (cs ++ .inl (0, q, z_upi g i.toNatClampNeg v) :: rs) sl) := by
  have e := hl_get (L := L) (xs := xs) (o := .inl (0, q, g)) (rs := rs) (sl := sl) hn
  unfold z_stI
  simp only [e]
  rw [if_pos ⟨by trivial, hi⟩, hl_put hn]
theorem hl_st {g : Nat → Int32} (hi : z_in i q = true) : (z_stI (z_hl L xs (cs ++ [.inl (0, q, g)]) sl) (some (z_hl L xs cs sl0).1) i v).bind f = f (z_hl L xs (cs ++ [.inl (0, q, z_upi g i.toNatClampNeg v)]) sl) := by
  rw [hl_1, hl_stI rfl hi]
  rfl
theorem hl_nul (h : 6 ≤ n) {f : Bool → Option z_H} : (z_nul (some n)).bind f = f false := by
  rw [z_nulS h]
  rfl
theorem hl_nul1 {f : Bool → Option z_H} : (z_nul (some (z_hl L xs cs sl).1)).bind f = f false := hl_nul (by rw [hl_1]; omega)
theorem C41 (h6 : 6 ≤ n) (hn : 6 + cs.length = n) : z_cV 1 41 [.inr (.inr (some n))] (z_hl L xs (cs ++ [.inr (.inr (7, [.inr (.inr none), .inr (.inr none), .inr (.inr none), .inl 0, .inl 0, .inr (.inr none), .inl 0, .inl 0, .inl 0, .inr (.inr none), .inr (.inr none), .inr (.inr none)]))]) sl) = some (z_hl L xs (cs ++ .inr (.inr (7, [.inr (.inr (some (n + 1))), .inr (.inr (some (n + 2))), .inr (.inr (some (n + 3))), .inl 0, .inl (4), .inr (.inr (some (n + 4))), .inl 0, .inl 0, .inl 0, .inr (.inr (some (n + 5))), .inr (.inr (some (n + 6))), .inr (.inr (some (n + 7)))])) :: [.inl (0, 20, fun _ => 0), .inl (0, 20, fun _ => 0), .inr (.inl (3, 12, fun _ => none)), .inl (0, 144, fun _ => 0), .inl (0, 20, fun _ => 0), .inl (0, 20, fun _ => 0), .inl (0, 20, fun _ => 0)]) (sl + 256)) := by
  rw [E41]
  refine (hl_nul h6).trans ?_
  refine (if_pos rfl).trans ?_
  refine (hl_mk hn (Nat.le_of_ble_eq_true rfl)).trans ?_
  refine (hl_mk hn (Nat.le_of_ble_eq_true rfl)).trans ?_
  refine (hl_mkR hn (Nat.le_of_ble_eq_true rfl)).trans ?_
  refine (hl_pIb hn (Nat.le_of_ble_eq_true rfl) (Or.inl rfl)).trans ?_
  refine (hl_mk hn (Nat.le_of_ble_eq_true rfl)).trans ?_
  refine (hl_mk hn (Nat.le_of_ble_eq_true rfl)).trans ?_
  refine (hl_mk hn (Nat.le_of_ble_eq_true rfl)).trans ?_
  refine (hl_mk hn (Nat.le_of_ble_eq_true rfl)).trans ?_
  rfl
theorem C12 (h6 : 6 ≤ n) (hn : 6 + cs.length = n) : z_cV 1 12 [.inr (.inr (some n))] (z_hl L xs (cs ++ [.inr (.inr (2, [.inr (.inr none), .inl 0, .inl 0, .inl 0]))]) sl) = some (z_hl L xs (cs ++ .inr (.inr (2, [.inr (.inr (some (n + 1))), .inl 0, .inl 0, .inl 0])) :: [.inr (.inl (4, 8, fun _ => none))]) (sl + 8)) := by
  rw [E12]
  refine (hl_nul h6).trans ?_
  refine (if_pos rfl).trans ?_
  refine (hl_mkR hn (Nat.le_of_ble_eq_true rfl)).trans ?_
  rfl
theorem C68 (h6 : 6 ≤ n) (hn : 6 + cs.length = n) : z_cV 1 68 [.inr (.inr (some n))] (z_hl L xs (cs ++ [.inr (.inr (9, [.inr (.inr none), .inl 0, .inl 0, .inl 0, .inr (.inr none)]))]) sl) = some (z_hl L xs (cs ++ .inr (.inr (9, [.inr (.inr (some (n + 1))), .inl 0, .inl 0, .inl (-1), .inr (.inr none)])) :: [.inl (2, 60, fun _ => 0)]) (sl + 60)) := by
  rw [E68]
  refine (hl_nul h6).trans ?_
  refine (if_pos rfl).trans ?_
  refine (hl_mk hn (Nat.le_of_ble_eq_true rfl)).trans ?_
  refine (hl_pIb hn (Nat.le_of_ble_eq_true rfl) (Or.inl rfl)).trans ?_
  rfl
theorem C34 (h6 : 6 ≤ n) (hn : 6 + cs.length = n) : z_cV 1 34 [.inr (.inr (some n))] (z_hl L xs (cs ++ [.inr (.inr (5, [.inr (.inr none), .inr (.inr none), .inr (.inr none), .inr (.inr none), .inl 0]))]) sl) = some (z_hl L xs (cs ++ .inr (.inr (5, [.inr (.inr (some (n + 1))), .inr (.inr (some (n + 2))), .inr (.inr (some (n + 3))), .inr (.inr (some (n + 4))), .inl 0])) :: [.inl (0, 8, fun _ => 0), .inl (0, 8, fun _ => 0), .inl (0, 8, fun _ => 0), .inl (0, 8, fun _ => 0)]) (sl + 32)) := by
  rw [E34]
  refine (hl_nul h6).trans ?_
  refine (if_pos rfl).trans ?_
  refine (hl_mk hn (Nat.le_of_ble_eq_true rfl)).trans ?_
  refine (hl_mk hn (Nat.le_of_ble_eq_true rfl)).trans ?_
  refine (hl_mk hn (Nat.le_of_ble_eq_true rfl)).trans ?_
  refine (hl_mk hn (Nat.le_of_ble_eq_true rfl)).trans ?_
  rfl
theorem C16 (h6 : 6 ≤ n) (hn : 6 + cs.length = n) : z_cV 1 16 [.inr (.inr (some n))] (z_hl L xs (cs ++ [.inr (.inr (3, [.inr (.inr none), .inr (.inr none), .inr (.inr none), .inr (.inr none), .inr (.inr none), .inr (.inr none), .inl 0, .inr (.inr none), .inr (.inr none), .inl 0, .inl 0, .inl 0, .inr (.inr none), .inl 0]))]) sl) = some (z_hl L xs (cs ++ .inr (.inr (3, [.inr (.inr (some (n + 1))), .inr (.inr (some (n + 2))), .inr (.inr (some (n + 3))), .inr (.inr (some (n + 4))), .inr (.inr (some (n + 5))), .inr (.inr (some (n + 6))), .inl 0, .inr (.inr (some (n + 7))), .inr (.inr (some (n + 8))), .inl (1), .inl 0, .inl 0, .inr (.inr (some (n + 9))), .inl 0])) :: [.inl (0, 7, fun _ => 0), .inl (0, 7, fun _ => 0), .inl (0, 7, fun _ => 0), .inl (0, 7, fun _ => 0), .inl (0, 7, fun _ => 0), .inl (0, 7, fun _ => 0), .inl (0, 7, fun _ => 0), .inl (0, 7, fun _ => 0), .inl (0, 12, fun _ => 0)]) (sl + 68)) := by
  rw [E16]
  refine (hl_nul h6).trans ?_
  refine (if_pos rfl).trans ?_
  refine (hl_mk hn (Nat.le_of_ble_eq_true rfl)).trans ?_
  refine (hl_mk hn (Nat.le_of_ble_eq_true rfl)).trans ?_
  refine (hl_mk hn (Nat.le_of_ble_eq_true rfl)).trans ?_
  refine (hl_mk hn (Nat.le_of_ble_eq_true rfl)).trans ?_
  refine (hl_mk hn (Nat.le_of_ble_eq_true rfl)).trans ?_
  refine (hl_mk hn (Nat.le_of_ble_eq_true rfl)).trans ?_
  refine (hl_mk hn (Nat.le_of_ble_eq_true rfl)).trans ?_
  refine (hl_mk hn (Nat.le_of_ble_eq_true rfl)).trans ?_
  refine (hl_pIb hn (Nat.le_of_ble_eq_true rfl) (Or.inr (Or.inr rfl))).trans ?_
  refine (hl_mk hn (Nat.le_of_ble_eq_true rfl)).trans ?_
  rfl
theorem C59 (h6 : 6 ≤ n) (hn : 6 + cs.length = n) : z_cV 1 59 [.inr (.inr (some n))] (z_hl L xs (cs ++ [.inr (.inr (8, [.inl 0, .inr (.inr none), .inr (.inr none), .inr (.inr none), .inr (.inr none), .inr (.inr none), .inl 0, .inr (.inr none), .inr (.inr none), .inr (.inr none), .inr (.inr none), .inl 0]))]) sl) = some (z_hl L xs (cs ++ .inr (.inr (8, [.inl 0, .inr (.inr (some (n + 1))), .inr (.inr (some (n + 2))), .inr (.inr (some (n + 3))), .inr (.inr (some (n + 4))), .inr (.inr (some (n + 5))), .inl 0, .inr (.inr (some (n + 6))), .inr (.inr (some (n + 7))), .inr (.inr (some (n + 8))), .inr (.inr (some (n + 9))), .inl 0])) :: [.inl (0, 60, fun _ => 0), .inl (0, 60, fun _ => 0), .inl (0, 60, fun _ => 0), .inl (0, 60, fun _ => 0), .inl (0, 60, fun _ => 0), .inl (0, 20, fun _ => 0), .inl (0, 20, fun _ => 0), .inl (0, 20, fun _ => 0), .inl (0, 20, fun _ => 0)]) (sl + 380)) := by
  rw [E59]
  refine (hl_nul h6).trans ?_
  refine (if_pos rfl).trans ?_
  refine (hl_mk hn (Nat.le_of_ble_eq_true rfl)).trans ?_
  refine (hl_mk hn (Nat.le_of_ble_eq_true rfl)).trans ?_
  refine (hl_mk hn (Nat.le_of_ble_eq_true rfl)).trans ?_
  refine (hl_mk hn (Nat.le_of_ble_eq_true rfl)).trans ?_
  refine (hl_mk hn (Nat.le_of_ble_eq_true rfl)).trans ?_
  refine (hl_mk hn (Nat.le_of_ble_eq_true rfl)).trans ?_
  refine (hl_mk hn (Nat.le_of_ble_eq_true rfl)).trans ?_
  refine (hl_mk hn (Nat.le_of_ble_eq_true rfl)).trans ?_
  refine (hl_mk hn (Nat.le_of_ble_eq_true rfl)).trans ?_
  rfl
theorem CN41 (hm : 6 + cs.length = n) : z_cV 1 41 [.inr (.inr (some (z_hl L xs cs sl).1))] (z_new 7 (z_hl L xs cs sl)) = some (z_hl L xs (cs ++ .inr (.inr (7, [.inr (.inr (some (n + 1))), .inr (.inr (some (n + 2))), .inr (.inr (some (n + 3))), .inl 0, .inl (4), .inr (.inr (some (n + 4))), .inl 0, .inl 0, .inl 0, .inr (.inr (some (n + 5))), .inr (.inr (some (n + 6))), .inr (.inr (some (n + 7)))])) :: [.inl (0, 20, fun _ => 0), .inl (0, 20, fun _ => 0), .inr (.inl (3, 12, fun _ => none)), .inl (0, 144, fun _ => 0), .inl (0, 20, fun _ => 0), .inl (0, 20, fun _ => 0), .inl (0, 20, fun _ => 0)]) (sl + 12 + 256)) := by
  rw [hl_1, hm, hl_new (fs := [.inr (.inr none), .inr (.inr none), .inr (.inr none), .inl 0, .inl 0, .inr (.inr none), .inl 0, .inl 0, .inl 0, .inr (.inr none), .inr (.inr none), .inr (.inr none)]) (q := 12) rfl rfl]
  exact C41 (by omega) hm
theorem CN12 (hm : 6 + cs.length = n) : z_cV 1 12 [.inr (.inr (some (z_hl L xs cs sl).1))] (z_new 2 (z_hl L xs cs sl)) = some (z_hl L xs (cs ++ .inr (.inr (2, [.inr (.inr (some (n + 1))), .inl 0, .inl 0, .inl 0])) :: [.inr (.inl (4, 8, fun _ => none))]) (sl + 4 + 8)) := by
  rw [hl_1, hm, hl_new (fs := [.inr (.inr none), .inl 0, .inl 0, .inl 0]) (q := 4) rfl rfl]
  exact C12 (by omega) hm
theorem CN68 (hm : 6 + cs.length = n) : z_cV 1 68 [.inr (.inr (some (z_hl L xs cs sl).1))] (z_new 9 (z_hl L xs cs sl)) = some (z_hl L xs (cs ++ .inr (.inr (9, [.inr (.inr (some (n + 1))), .inl 0, .inl 0, .inl (-1), .inr (.inr none)])) :: [.inl (2, 60, fun _ => 0)]) (sl + 5 + 60)) := by
  rw [hl_1, hm, hl_new (fs := [.inr (.inr none), .inl 0, .inl 0, .inl 0, .inr (.inr none)]) (q := 5) rfl rfl]
  exact C68 (by omega) hm
theorem CN34 (hm : 6 + cs.length = n) : z_cV 1 34 [.inr (.inr (some (z_hl L xs cs sl).1))] (z_new 5 (z_hl L xs cs sl)) = some (z_hl L xs (cs ++ .inr (.inr (5, [.inr (.inr (some (n + 1))), .inr (.inr (some (n + 2))), .inr (.inr (some (n + 3))), .inr (.inr (some (n + 4))), .inl 0])) :: [.inl (0, 8, fun _ => 0), .inl (0, 8, fun _ => 0), .inl (0, 8, fun _ => 0), .inl (0, 8, fun _ => 0)]) (sl + 5 + 32)) := by
  rw [hl_1, hm, hl_new (fs := [.inr (.inr none), .inr (.inr none), .inr (.inr none), .inr (.inr none), .inl 0]) (q := 5) rfl rfl]
  exact C34 (by omega) hm
theorem CN16 (hm : 6 + cs.length = n) : z_cV 1 16 [.inr (.inr (some (z_hl L xs cs sl).1))] (z_new 3 (z_hl L xs cs sl)) = some (z_hl L xs (cs ++ .inr (.inr (3, [.inr (.inr (some (n + 1))), .inr (.inr (some (n + 2))), .inr (.inr (some (n + 3))), .inr (.inr (some (n + 4))), .inr (.inr (some (n + 5))), .inr (.inr (some (n + 6))), .inl 0, .inr (.inr (some (n + 7))), .inr (.inr (some (n + 8))), .inl (1), .inl 0, .inl 0, .inr (.inr (some (n + 9))), .inl 0])) :: [.inl (0, 7, fun _ => 0), .inl (0, 7, fun _ => 0), .inl (0, 7, fun _ => 0), .inl (0, 7, fun _ => 0), .inl (0, 7, fun _ => 0), .inl (0, 7, fun _ => 0), .inl (0, 7, fun _ => 0), .inl (0, 7, fun _ => 0), .inl (0, 12, fun _ => 0)]) (sl + 14 + 68)) := by
  rw [hl_1, hm, hl_new (fs := [.inr (.inr none), .inr (.inr none), .inr (.inr none), .inr (.inr none), .inr (.inr none), .inr (.inr none), .inl 0, .inr (.inr none), .inr (.inr none), .inl 0, .inl 0, .inl 0, .inr (.inr none), .inl 0]) (q := 14) rfl rfl]
  exact C16 (by omega) hm
theorem CN59 (hm : 6 + cs.length = n) : z_cV 1 59 [.inr (.inr (some (z_hl L xs cs sl).1))] (z_new 8 (z_hl L xs cs sl)) = some (z_hl L xs (cs ++ .inr (.inr (8, [.inl 0, .inr (.inr (some (n + 1))), .inr (.inr (some (n + 2))), .inr (.inr (some (n + 3))), .inr (.inr (some (n + 4))), .inr (.inr (some (n + 5))), .inl 0, .inr (.inr (some (n + 6))), .inr (.inr (some (n + 7))), .inr (.inr (some (n + 8))), .inr (.inr (some (n + 9))), .inl 0])) :: [.inl (0, 60, fun _ => 0), .inl (0, 60, fun _ => 0), .inl (0, 60, fun _ => 0), .inl (0, 60, fun _ => 0), .inl (0, 60, fun _ => 0), .inl (0, 20, fun _ => 0), .inl (0, 20, fun _ => 0), .inl (0, 20, fun _ => 0), .inl (0, 20, fun _ => 0)]) (sl + 12 + 380)) := by
  rw [hl_1, hm, hl_new (fs := [.inl 0, .inr (.inr none), .inr (.inr none), .inr (.inr none), .inr (.inr none), .inr (.inr none), .inl 0, .inr (.inr none), .inr (.inr none), .inr (.inr none), .inr (.inr none), .inl 0]) (q := 12) rfl rfl]
  exact C59 (by omega) hm
theorem hl_sub {α : Type} {p : Option z_H} {h : z_H} {f : z_H → Option α} (e : p = some h) : p.bind f = f h := by rw [e]; rfl
theorem hl_pRa {sl1 : Nat} (hn : 6 + cs.length = n) (hk : k < fs.length) : (z_pR (z_hl L xs ((cs ++ .inr (.inr (ci, fs)) :: rs) ++ as) sl) (some n) ci k (some (z_hl L xs (cs ++ .inr (.inr (ci, fs)) :: rs) sl1).1)).bind f = f (z_hl L xs (cs ++ .inr (.inr (ci, fs.set k (.inr (.inr (some (n + 1 + rs.length)))))) :: (rs ++ as)) sl) := by
  rw [hl_as, hl_pR hn hk, hl_ln hn]
  rfl
theorem hl_ns (hi : z_in i q = true) : (z_stI (z_nwI 0 q (z_hl L xs cs sl)) (some (z_hl L xs cs sl).1) i v).bind f = f (z_hl L xs (cs ++ [.inl (0, q, z_upi (fun _ => 0) i.toNatClampNeg v)]) (sl + q)) := by
  rw [hl_nwI]
  exact hl_st hi
def y_m8 : Nat → Int32 := (z_upi (z_upi (z_upi (z_upi (z_upi (z_upi (z_upi (z_upi (fun _ => 0) (0 : Int32).toNatClampNeg (-1)) (1 : Int32).toNatClampNeg (-1)) (2 : Int32).toNatClampNeg (-1)) (3 : Int32).toNatClampNeg (-1)) (4 : Int32).toNatClampNeg (-1)) (5 : Int32).toNatClampNeg (-1)) (6 : Int32).toNatClampNeg (-1)) (7 : Int32).toNatClampNeg (-1))
def y_m4 : Nat → Int32 := (z_upi (z_upi (z_upi (z_upi (fun _ => 0) (0 : Int32).toNatClampNeg (-9)) (1 : Int32).toNatClampNeg (-9)) (2 : Int32).toNatClampNeg (-9)) (3 : Int32).toNatClampNeg (-9))
theorem C6 (h6 : 6 ≤ n) (hn : 6 + cs.length = n) : z_cV 1 6 [.inr (.inr (some n))] (z_hl L xs (cs ++ [.inr (.inr (1, [.inr (.inr none), .inr (.inr none), .inr (.inr none), .inl 0, .inl 0]))]) sl) = some (z_hl L xs (cs ++ .inr (.inr (1, [.inr (.inr (some (n + 1))), .inr (.inr (some (n + 2))), .inr (.inr (some (n + 3))), .inl 0, .inl 0])) :: [.inl (0, 8, y_m8), .inl (0, 4, fun _ => 0), .inl (0, 4, y_m4)]) (sl + 16)) := by
  rw [E6]
  refine (hl_nul h6).trans ?_
  refine (if_pos rfl).trans ?_
  refine (hl_ns (by decide)).trans ?_
  refine (hl_st (by decide)).trans ?_
  refine (hl_st (by decide)).trans ?_
  refine (hl_st (by decide)).trans ?_
  refine (hl_st (by decide)).trans ?_
  refine (hl_st (by decide)).trans ?_
  refine (hl_st (by decide)).trans ?_
  refine (hl_st (by decide)).trans ?_
  refine (hl_pRa hn (Nat.le_of_ble_eq_true rfl)).trans ?_
  refine (hl_mk hn (Nat.le_of_ble_eq_true rfl)).trans ?_
  refine (hl_ns (by decide)).trans ?_
  refine (hl_st (by decide)).trans ?_
  refine (hl_st (by decide)).trans ?_
  refine (hl_st (by decide)).trans ?_
  refine (hl_pRa hn (Nat.le_of_ble_eq_true rfl)).trans ?_
  rfl
theorem CN6 (hm : 6 + cs.length = n) : z_cV 1 6 [.inr (.inr (some (z_hl L xs cs sl).1))] (z_new 1 (z_hl L xs cs sl)) = some (z_hl L xs (cs ++ .inr (.inr (1, [.inr (.inr (some (n + 1))), .inr (.inr (some (n + 2))), .inr (.inr (some (n + 3))), .inl 0, .inl 0])) :: [.inl (0, 8, y_m8), .inl (0, 4, fun _ => 0), .inl (0, 4, y_m4)]) (sl + 5 + 16)) := by
  rw [hl_1, hm, hl_new (fs := [.inr (.inr none), .inr (.inr none), .inr (.inr none), .inl 0, .inl 0]) (q := 5) rfl rfl]
  exact C6 (by omega) hm
theorem C38 (h6 : 6 ≤ n) (hn : 6 + cs.length = n) : z_cV 2 38 [.inr (.inr (some n))] (z_hl L xs (cs ++ [.inr (.inr (6, [.inr (.inr none), .inr (.inr none), .inl 0, .inr (.inr none)]))]) sl) = some (z_hl L xs (cs ++ .inr (.inr (6, [.inr (.inr (some (n + 1))), .inr (.inr (some (n + 3))), .inl 0, .inr (.inr (some (n + 4)))])) :: [.inr (.inr (9, [.inr (.inr (some (n + 2))), .inl 0, .inl 0, .inl (-1), .inr (.inr none)])), .inl (2, 60, fun _ => 0), .inr (.inl (5, 6, fun _ => none)), .inl (0, 7, fun _ => 0)]) (sl + 78)) := by
  rw [E38]
  refine (hl_nul h6).trans ?_
  refine (if_pos rfl).trans ?_
  refine hl_nul1.trans ?_
  refine (if_pos rfl).trans ?_
  refine (hl_sub (CN68 (n := n + 1) (by rw [List.length_append]; show 6 + (cs.length + 1) = n + 1; omega))).trans ?_
  refine (hl_pRa hn (Nat.le_of_ble_eq_true rfl)).trans ?_
  refine (hl_mkR hn (Nat.le_of_ble_eq_true rfl)).trans ?_
  refine (hl_mk hn (Nat.le_of_ble_eq_true rfl)).trans ?_
  rfl
theorem CN38 (hm : 6 + cs.length = n) : z_cV 2 38 [.inr (.inr (some (z_hl L xs cs sl).1))] (z_new 6 (z_hl L xs cs sl)) = some (z_hl L xs (cs ++ .inr (.inr (6, [.inr (.inr (some (n + 1))), .inr (.inr (some (n + 3))), .inl 0, .inr (.inr (some (n + 4)))])) :: [.inr (.inr (9, [.inr (.inr (some (n + 2))), .inl 0, .inl 0, .inl (-1), .inr (.inr none)])), .inl (2, 60, fun _ => 0), .inr (.inl (5, 6, fun _ => none)), .inl (0, 7, fun _ => 0)]) (sl + 4 + 78)) := by
  rw [hl_1, hm, hl_new (fs := [.inr (.inr none), .inr (.inr none), .inl 0, .inr (.inr none)]) (q := 4) rfl rfl]
  exact C38 (by omega) hm
def y_C1 : List z_C := [.inr (.inr (10, [.inr (.inr (some 7)), .inr (.inr (some 8)), .inr (.inr (some 16)), .inr (.inr (some 18)), .inr (.inr (some 23)), .inr (.inr (some 28)), .inr (.inr (some 38)), .inr (.inr (some 42))])), .inl (0, 7, fun _ => 0), .inr (.inr (7, [.inr (.inr (some 9)), .inr (.inr (some 10)), .inr (.inr (some 11)), .inl 0, .inl (4), .inr (.inr (some 12)), .inl 0, .inl 0, .inl 0, .inr (.inr (some 13)), .inr (.inr (some 14)), .inr (.inr (some 15))])), .inl (0, 20, fun _ => 0), .inl (0, 20, fun _ => 0), .inr (.inl (3, 12, fun _ => none)), .inl (0, 144, fun _ => 0), .inl (0, 20, fun _ => 0), .inl (0, 20, fun _ => 0), .inl (0, 20, fun _ => 0), .inr (.inr (2, [.inr (.inr (some 17)), .inl 0, .inl 0, .inl 0])), .inr (.inl (4, 8, fun _ => none)), .inr (.inr (6, [.inr (.inr (some 19)), .inr (.inr (some 21)), .inl 0, .inr (.inr (some 22))])), .inr (.inr (9, [.inr (.inr (some 20)), .inl 0, .inl 0, .inl (-1), .inr (.inr none)])), .inl (2, 60, fun _ => 0), .inr (.inl (5, 6, fun _ => none)), .inl (0, 7, fun _ => 0), .inr (.inr (5, [.inr (.inr (some 24)), .inr (.inr (some 25)), .inr (.inr (some 26)), .inr (.inr (some 27)), .inl 0])), .inl (0, 8, fun _ => 0), .inl (0, 8, fun _ => 0), .inl (0, 8, fun _ => 0), .inl (0, 8, fun _ => 0), .inr (.inr (3, [.inr (.inr (some 29)), .inr (.inr (some 30)), .inr (.inr (some 31)), .inr (.inr (some 32)), .inr (.inr (some 33)), .inr (.inr (some 34)), .inl 0, .inr (.inr (some 35)), .inr (.inr (some 36)), .inl (1), .inl 0, .inl 0, .inr (.inr (some 37)), .inl 0])), .inl (0, 7, fun _ => 0), .inl (0, 7, fun _ => 0), .inl (0, 7, fun _ => 0), .inl (0, 7, fun _ => 0), .inl (0, 7, fun _ => 0), .inl (0, 7, fun _ => 0), .inl (0, 7, fun _ => 0), .inl (0, 7, fun _ => 0), .inl (0, 12, fun _ => 0), .inr (.inr (1, [.inr (.inr (some 39)), .inr (.inr (some 40)), .inr (.inr (some 41)), .inl 0, .inl 0])), .inl (0, 8, y_m8), .inl (0, 4, fun _ => 0), .inl (0, 4, y_m4), .inr (.inr (8, [.inl 0, .inr (.inr (some 43)), .inr (.inr (some 44)), .inr (.inr (some 45)), .inr (.inr (some 46)), .inr (.inr (some 47)), .inl 0, .inr (.inr (some 48)), .inr (.inr (some 49)), .inr (.inr (some 50)), .inr (.inr (some 51)), .inl 0])), .inl (0, 60, fun _ => 0), .inl (0, 60, fun _ => 0), .inl (0, 60, fun _ => 0), .inl (0, 60, fun _ => 0), .inl (0, 60, fun _ => 0), .inl (0, 20, fun _ => 0), .inl (0, 20, fun _ => 0), .inl (0, 20, fun _ => 0), .inl (0, 20, fun _ => 0)]
theorem C80 : z_cV 3 80 [.inr (.inr (some 6))] (z_hl L xs [.inr (.inr (10, [.inr (.inr none), .inr (.inr none), .inr (.inr none), .inr (.inr none), .inr (.inr none), .inr (.inr none), .inr (.inr none), .inr (.inr none)]))] 8) = some (z_hl L xs y_C1 909) := by
  rw [E80]
  refine (hl_nul (by decide)).trans ?_
  refine (if_pos rfl).trans ?_
  refine (hl_mk (cs := []) (n := 6) rfl (Nat.le_of_ble_eq_true rfl)).trans ?_
  refine hl_nul1.trans ?_
  refine (if_pos rfl).trans ?_
  refine (hl_sub (CN41 (n := 8) rfl)).trans ?_
  refine (hl_pRa (cs := []) (n := 6) rfl (Nat.le_of_ble_eq_true rfl)).trans ?_
  refine hl_nul1.trans ?_
  refine (if_pos rfl).trans ?_
  refine (hl_sub (CN12 (n := 16) rfl)).trans ?_
  refine (hl_pRa (cs := []) (n := 6) rfl (Nat.le_of_ble_eq_true rfl)).trans ?_
  refine hl_nul1.trans ?_
  refine (if_pos rfl).trans ?_
  refine (hl_sub (CN38 (n := 18) rfl)).trans ?_
  refine (hl_pRa (cs := []) (n := 6) rfl (Nat.le_of_ble_eq_true rfl)).trans ?_
  refine hl_nul1.trans ?_
  refine (if_pos rfl).trans ?_
  refine (hl_sub (CN34 (n := 23) rfl)).trans ?_
  refine (hl_pRa (cs := []) (n := 6) rfl (Nat.le_of_ble_eq_true rfl)).trans ?_
  refine hl_nul1.trans ?_
  refine (if_pos rfl).trans ?_
  refine (hl_sub (CN16 (n := 28) rfl)).trans ?_
  refine (hl_pRa (cs := []) (n := 6) rfl (Nat.le_of_ble_eq_true rfl)).trans ?_
  refine hl_nul1.trans ?_
  refine (if_pos rfl).trans ?_
  refine (hl_sub (CN6 (n := 38) rfl)).trans ?_
  refine (hl_pRa (cs := []) (n := 6) rfl (Nat.le_of_ble_eq_true rfl)).trans ?_
  refine hl_nul1.trans ?_
  refine (if_pos rfl).trans ?_
  refine (hl_sub (CN59 (n := 42) rfl)).trans ?_
  refine (hl_pRa (cs := []) (n := 6) rfl (Nat.le_of_ble_eq_true rfl)).trans ?_
  rfl
def y_m9b : Nat → Int32 := (z_upi (z_upi (z_upi (z_upi (z_upi (z_upi (z_upi (z_upi (fun _ => 0) (0 : Int32).toNatClampNeg (-1)) (0+1 : Int32).toNatClampNeg (-1)) (0+1+1 : Int32).toNatClampNeg (-1)) (0+1+1+1 : Int32).toNatClampNeg (-1)) (0+1+1+1+1 : Int32).toNatClampNeg (-1)) (0+1+1+1+1+1 : Int32).toNatClampNeg (-1)) (0+1+1+1+1+1+1 : Int32).toNatClampNeg (-1)) (0+1+1+1+1+1+1+1 : Int32).toNatClampNeg (-1))
def y_A1 : List z_C := [.inl (1, 400, fun _ => 0), .inl (1, 400, fun _ => 0), .inl (0, 12, fun _ => 0), .inl (0, 12, fun _ => 0), .inl (0, 12, fun _ => 0), .inl (0, 12, fun _ => 0), .inl (0, 12, fun _ => 0), .inl (0, 12, fun _ => 0), .inl (0, 12, fun _ => 0), .inl (0, 480, fun _ => 0), .inl (0, 48, fun _ => 0), .inl (0, 3, fun _ => 0), .inl (2, 60, fun _ => 0), .inl (2, 366, fun _ => 0), .inl (0, 6, fun _ => 0), .inl (0, 7, fun _ => 0), .inl (1, 7, fun _ => 0), .inl (1, 7, fun _ => 0), .inl (1, 7, fun _ => 0), .inl (0, 32, fun _ => 0), .inl (0, 42, fun _ => 0), .inl (0, 7, fun _ => 0), .inl (0, 7, fun _ => 0), .inl (0, 12, fun _ => 0)]
def y_A2 : List z_C := [.inl (0, 300, fun _ => 0), .inl (0, 80, fun _ => 0), .inl (0, 10, fun _ => 0), .inl (0, 120, fun _ => 0), .inl (0, 120, fun _ => 0), .inl (1, 400, fun _ => 0), .inl (1, 400, fun _ => 0), .inl (0, 3, fun _ => 0), .inl (0, 7, fun _ => 0)]
def y_O (n : Nat) : z_C := .inr (.inr (11, (.inr (.inr (some (n + 1))) :: .inr (.inr (some (n + 2))) :: .inl 0 :: .inr (.inr (some (n + 3))) :: .inr (.inr (some (n + 4))) :: .inr (.inr (some (n + 5))) :: .inr (.inr (some (n + 6))) :: .inr (.inr (some (n + 7))) :: .inr (.inr (some (n + 8))) :: .inr (.inr (some (n + 9))) :: .inr (.inr (some (n + 10))) :: .inl (4) :: .inl 0 :: .inr (.inr (some (n + 11))) :: .inr (.inr (some (n + 12))) :: .inl 0 :: .inl 0 :: .inr (.inr (some (n + 13))) :: .inl 0 :: .inr (.inr (some (n + 14))) :: .inr (.inr (some (n + 15))) :: .inr (.inr (some (n + 16))) :: .inr (.inr (some (n + 17))) :: .inr (.inr (some (n + 18))) :: .inr (.inr (some (n + 19))) :: .inl 0 :: .inl 0 :: .inr (.inr (some (n + 20))) :: .inl 0 :: .inr (.inr (some (n + 21))) :: .inr (.inr (some (n + 22))) :: .inr (.inr (some (n + 23))) :: .inl 0 :: .inl 0 :: .inr (.inr (some (n + 24))) :: .inl 0 :: .inr (.inr (some (n + 25))) :: .inl 0 :: .inl 0 :: .inl 0 :: .inr (.inr (some (n + 26))) :: .inl 0 :: .inr (.inr (some (n + 27))) :: .inr (.inr (some (n + 28))) :: .inr (.inr (some (n + 29))) :: .inr (.inr (some (n + 30))) :: .inl 0 :: .inr (.inr (some (n + 31))) :: .inr (.inr (some (n + 32))) :: .inl 0 :: .inl (-1) :: .inr (.inr (some (n + 33))) :: .inr (.inr (some (n + 34))) :: [])))
def y_Hm (L : Nat) (xs : Nat → Int32) (cs : List z_C) (n sl : Nat) (g : Nat → Int32) : z_H := z_hl L xs ((cs ++ y_O n :: y_A1) ++ .inl (0, 8, g) :: y_A2) sl
theorem y_HmR {g : Nat → Int32} (hn : 6 + cs.length = n) : z_gR (y_Hm L xs cs n sl g) (some n) 11 36 = some (some (n + 25)) := by
  have e := hl_get (L := L) (xs := xs) (o := y_O n) (rs := y_A1 ++ .inl (0, 8, g) :: y_A2) (sl := sl) hn
  unfold y_Hm
  rw [hl_as]
  unfold z_gR
  simp only [e]
  rfl
theorem y_HmI {g : Nat → Int32} (hn : 6 + cs.length = n) (hi : z_in i 8 = true) : z_stI (y_Hm L xs cs n sl g) (some (n + 25)) i v = some (y_Hm L xs cs n sl (z_upi g i.toNatClampNeg v)) := by
  unfold y_Hm
  exact hl_stI (by rw [List.length_append]; show 6 + (cs.length + 25) = n + 25; omega) hi
theorem y_HmS {g : Nat → Int32} (hn : 6 + cs.length = n) (hi : z_in i 8 = true) (hl : ¬ (8 : Int32) ≤ i) : L130_293 (some n) i (y_Hm L xs cs n sl g) = L130_293 (some n) (i + 1) (y_Hm L xs cs n sl (z_upi g i.toNatClampNeg (-1))) := by
  rw [E130_293, if_neg hl, y_HmR hn]
  show (z_stI _ _ _ _).bind _ = _
  rw [y_HmI hn hi]
  rfl
theorem C130 (h6 : 6 ≤ n) (hn : 6 + cs.length = n) : z_cV 1 130 [.inr (.inr (some n))] (z_hl L xs (cs ++ [.inr (.inr (11, (.inr (.inr none) :: .inr (.inr none) :: .inl 0 :: .inr (.inr none) :: .inr (.inr none) :: .inr (.inr none) :: .inr (.inr none) :: .inr (.inr none) :: .inr (.inr none) :: .inr (.inr none) :: .inr (.inr none) :: .inl 0 :: .inl 0 :: .inr (.inr none) :: .inr (.inr none) :: .inl 0 :: .inl 0 :: .inr (.inr none) :: .inl 0 :: .inr (.inr none) :: .inr (.inr none) :: .inr (.inr none) :: .inr (.inr none) :: .inr (.inr none) :: .inr (.inr none) :: .inl 0 :: .inl 0 :: .inr (.inr none) :: .inl 0 :: .inr (.inr none) :: .inr (.inr none) :: .inr (.inr none) :: .inl 0 :: .inl 0 :: .inr (.inr none) :: .inl 0 :: .inr (.inr none) :: .inl 0 :: .inl 0 :: .inl 0 :: .inr (.inr none) :: .inl 0 :: .inr (.inr none) :: .inr (.inr none) :: .inr (.inr none) :: .inr (.inr none) :: .inl 0 :: .inr (.inr none) :: .inr (.inr none) :: .inl 0 :: .inl 0 :: .inr (.inr none) :: .inr (.inr none) :: [])))]) sl) = some (y_Hm L xs cs n (sl + 3423) y_m9b) := by
  rw [E130]
  refine (hl_nul h6).trans ?_
  refine (if_pos rfl).trans ?_
  refine (hl_mk hn (Nat.le_of_ble_eq_true rfl)).trans ?_
  refine (hl_mk hn (by simp only [List.length_set]; exact Nat.le_of_ble_eq_true rfl)).trans ?_
  refine (hl_mk hn (by simp only [List.length_set]; exact Nat.le_of_ble_eq_true rfl)).trans ?_
  refine (hl_mk hn (by simp only [List.length_set]; exact Nat.le_of_ble_eq_true rfl)).trans ?_
  refine (hl_mk hn (by simp only [List.length_set]; exact Nat.le_of_ble_eq_true rfl)).trans ?_
  refine (hl_mk hn (by simp only [List.length_set]; exact Nat.le_of_ble_eq_true rfl)).trans ?_
  refine (hl_mk hn (by simp only [List.length_set]; exact Nat.le_of_ble_eq_true rfl)).trans ?_
  refine (hl_mk hn (by simp only [List.length_set]; exact Nat.le_of_ble_eq_true rfl)).trans ?_
  refine (hl_mk hn (by simp only [List.length_set]; exact Nat.le_of_ble_eq_true rfl)).trans ?_
  refine (hl_mk hn (by simp only [List.length_set]; exact Nat.le_of_ble_eq_true rfl)).trans ?_
  refine (hl_pIb hn (by simp only [List.length_set]; exact Nat.le_of_ble_eq_true rfl) (Or.inl rfl)).trans ?_
  refine (hl_mk hn (by simp only [List.length_set]; exact Nat.le_of_ble_eq_true rfl)).trans ?_
  refine (hl_mk hn (by simp only [List.length_set]; exact Nat.le_of_ble_eq_true rfl)).trans ?_
  refine (hl_mk hn (by simp only [List.length_set]; exact Nat.le_of_ble_eq_true rfl)).trans ?_
  refine (hl_mk hn (by simp only [List.length_set]; exact Nat.le_of_ble_eq_true rfl)).trans ?_
  refine (hl_mk hn (by simp only [List.length_set]; exact Nat.le_of_ble_eq_true rfl)).trans ?_
  refine (hl_mk hn (by simp only [List.length_set]; exact Nat.le_of_ble_eq_true rfl)).trans ?_
  refine (hl_mk hn (by simp only [List.length_set]; exact Nat.le_of_ble_eq_true rfl)).trans ?_
  refine (hl_mk hn (by simp only [List.length_set]; exact Nat.le_of_ble_eq_true rfl)).trans ?_
  refine (hl_mk hn (by simp only [List.length_set]; exact Nat.le_of_ble_eq_true rfl)).trans ?_
  refine (hl_mk hn (by simp only [List.length_set]; exact Nat.le_of_ble_eq_true rfl)).trans ?_
  refine (hl_mk hn (by simp only [List.length_set]; exact Nat.le_of_ble_eq_true rfl)).trans ?_
  refine (hl_mk hn (by simp only [List.length_set]; exact Nat.le_of_ble_eq_true rfl)).trans ?_
  refine (hl_mk hn (by simp only [List.length_set]; exact Nat.le_of_ble_eq_true rfl)).trans ?_
  refine (hl_mk hn (by simp only [List.length_set]; exact Nat.le_of_ble_eq_true rfl)).trans ?_
  refine (hl_mk hn (by simp only [List.length_set]; exact Nat.le_of_ble_eq_true rfl)).trans ?_
  refine (hl_mk hn (by simp only [List.length_set]; exact Nat.le_of_ble_eq_true rfl)).trans ?_
  refine (hl_mk hn (by simp only [List.length_set]; exact Nat.le_of_ble_eq_true rfl)).trans ?_
  refine (hl_mk hn (by simp only [List.length_set]; exact Nat.le_of_ble_eq_true rfl)).trans ?_
  refine (hl_mk hn (by simp only [List.length_set]; exact Nat.le_of_ble_eq_true rfl)).trans ?_
  refine (hl_mk hn (by simp only [List.length_set]; exact Nat.le_of_ble_eq_true rfl)).trans ?_
  refine (hl_mk hn (by simp only [List.length_set]; exact Nat.le_of_ble_eq_true rfl)).trans ?_
  refine (hl_mk hn (by simp only [List.length_set]; exact Nat.le_of_ble_eq_true rfl)).trans ?_
  refine (hl_pIb hn (by simp only [List.length_set]; exact Nat.le_of_ble_eq_true rfl) (Or.inl rfl)).trans ?_
  refine (hl_mk hn (by simp only [List.length_set]; exact Nat.le_of_ble_eq_true rfl)).trans ?_
  refine (hl_mk hn (by simp only [List.length_set]; exact Nat.le_of_ble_eq_true rfl)).trans ?_
  refine Eq.trans (congrArg (fun w => L130_293 (some n) 0 w) (show _ = y_Hm L xs cs n (sl + 3423) (fun _ => 0) from ?_)) ?_
  · unfold y_Hm
    rw [hl_as]
    simp only [List.set_cons_succ, List.set_cons_zero, List.nil_append, List.cons_append, List.length_cons, List.length_nil, List.length_append, y_O, y_A1, y_A2, Nat.add_assoc, Nat.reduceAdd, Nat.zero_add]
  refine (y_HmS hn (by decide) (by decide)).trans ?_
  refine (y_HmS hn (by decide) (by decide)).trans ?_
  refine (y_HmS hn (by decide) (by decide)).trans ?_
  refine (y_HmS hn (by decide) (by decide)).trans ?_
  refine (y_HmS hn (by decide) (by decide)).trans ?_
  refine (y_HmS hn (by decide) (by decide)).trans ?_
  refine (y_HmS hn (by decide) (by decide)).trans ?_
  refine (y_HmS hn (by decide) (by decide)).trans ?_
  rw [E130_293, if_pos (by decide)]
  rfl
theorem CN130 (hm : 6 + cs.length = n) : z_cV 1 130 [.inr (.inr (some (z_hl L xs cs sl).1))] (z_new 11 (z_hl L xs cs sl)) = some (y_Hm L xs cs n (sl + 53 + 3423) y_m9b) := by
  rw [hl_1, hm, hl_new (fs := (.inr (.inr none) :: .inr (.inr none) :: .inl 0 :: .inr (.inr none) :: .inr (.inr none) :: .inr (.inr none) :: .inr (.inr none) :: .inr (.inr none) :: .inr (.inr none) :: .inr (.inr none) :: .inr (.inr none) :: .inl 0 :: .inl 0 :: .inr (.inr none) :: .inr (.inr none) :: .inl 0 :: .inl 0 :: .inr (.inr none) :: .inl 0 :: .inr (.inr none) :: .inr (.inr none) :: .inr (.inr none) :: .inr (.inr none) :: .inr (.inr none) :: .inr (.inr none) :: .inl 0 :: .inl 0 :: .inr (.inr none) :: .inl 0 :: .inr (.inr none) :: .inr (.inr none) :: .inr (.inr none) :: .inl 0 :: .inl 0 :: .inr (.inr none) :: .inl 0 :: .inr (.inr none) :: .inl 0 :: .inl 0 :: .inl 0 :: .inr (.inr none) :: .inl 0 :: .inr (.inr none) :: .inr (.inr none) :: .inr (.inr none) :: .inr (.inr none) :: .inl 0 :: .inr (.inr none) :: .inr (.inr none) :: .inl 0 :: .inl 0 :: .inr (.inr none) :: .inr (.inr none) :: [])) (q := 53) rfl rfl]
  exact C130 (by omega) hm
end ZUD
