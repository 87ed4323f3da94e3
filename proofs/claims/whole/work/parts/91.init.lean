section ZUD
/-! the heap at the start, as a list of its cells -/
def z_hl (L : Nat) (xs : Nat → Int32) (cs : List z_C) (sl : Nat) : z_H := (6 + cs.length, sl, fun a => if a < 6 then z_cel0 L xs a else cs.getD (a - 6) z_junk)
variable {L : Nat} {xs : Nat → Int32} {cs rs as : List z_C} {o c : z_C} {n sl sl' sl0 t q ci k ty : Nat} {fs : List z_V} {x : Option Nat} {i v : Int32}
theorem hl_0 : z_h0 L xs = z_hl L xs [] 0 := by
  unfold z_h0 z_hl
  refine Prod.ext rfl (Prod.ext rfl (funext fun a => ?_))
  show z_cel0 L xs a = if a < 6 then z_cel0 L xs a else z_junk
  by_cases c : a < 6
  · rw [if_pos c]
  · rw [if_neg c]
    unfold z_cel0
    rw [if_neg (by omega), if_neg (by omega), if_neg (by omega), if_neg (by omega), if_neg (by omega)]
theorem hl_1 : (z_hl L xs cs sl).1 = 6 + cs.length := rfl
theorem hl_app : ((6 + cs.length + 1, sl', z_upd (z_hl L xs cs sl).2.2 (6 + cs.length) c) : z_H) = z_hl L xs (cs ++ [c]) sl' := by
  unfold z_hl
  refine Prod.ext (by show 6 + cs.length + 1 = 6 + (cs ++ [c]).length; rw [List.length_append]; rfl) (Prod.ext rfl (funext fun a => ?_))
  show (if a = 6 + cs.length then c else if a < 6 then z_cel0 L xs a else cs.getD (a - 6) z_junk) = if a < 6 then z_cel0 L xs a else (cs ++ [c]).getD (a - 6) z_junk
  by_cases h1 : a = 6 + cs.length
  · rw [if_pos h1, if_neg (by omega), show a - 6 = cs.length by omega, List.getD_eq_getElem?_getD, List.getElem?_append_right (Nat.le_refl _), Nat.sub_self]
    rfl
  · rw [if_neg h1]
    by_cases h2 : a < 6
    · rw [if_pos h2, if_pos h2]
    · rw [if_neg h2, if_neg h2, List.getD_eq_getElem?_getD, List.getD_eq_getElem?_getD]
      by_cases h3 : a - 6 < cs.length
      · rw [List.getElem?_append_left h3]
      · rw [List.getElem?_append_right (by omega), List.getElem?_eq_none (by omega), List.getElem?_eq_none (by show 0 + 1 ≤ a - 6 - cs.length; omega)]
theorem hl_nwI : z_nwI t q (z_hl L xs cs sl) = z_hl L xs (cs ++ [.inl (t, q, fun _ => 0)]) (sl + q) := hl_app
theorem hl_nwR : z_nwR t q (z_hl L xs cs sl) = z_hl L xs (cs ++ [.inr (.inl (t, q, fun _ => none))]) (sl + q) := hl_app
theorem hl_new (hf : (z_fN.getD ci []).map z_dv = fs) (hq : (z_fN.getD ci []).length = q) : z_new ci (z_hl L xs cs sl) = z_hl L xs (cs ++ [.inr (.inr (ci, fs))]) (sl + q) := by
  rw [← hf, ← hq]
  exact hl_app
theorem hl_get (hn : 6 + cs.length = n) : (z_hl L xs (cs ++ o :: rs) sl).2.2 n = o := by
  show (if n < 6 then z_cel0 L xs n else (cs ++ o :: rs).getD (n - 6) z_junk) = o
  rw [if_neg (by omega), show n - 6 = cs.length by omega, List.getD_eq_getElem?_getD, List.getElem?_append_right (Nat.le_refl _), Nat.sub_self]
  rfl
theorem hl_put (hn : 6 + cs.length = n) : z_put (z_hl L xs (cs ++ o :: rs) sl) n c = z_hl L xs (cs ++ c :: rs) sl := by
  unfold z_put z_hl
  refine Prod.ext (by show 6 + (cs ++ o :: rs).length = 6 + (cs ++ c :: rs).length; rw [List.length_append, List.length_append]; rfl) (Prod.ext rfl (funext fun a => ?_))
  show (if a = n then c else if a < 6 then z_cel0 L xs a else (cs ++ o :: rs).getD (a - 6) z_junk) = if a < 6 then z_cel0 L xs a else (cs ++ c :: rs).getD (a - 6) z_junk
  by_cases h1 : a = n
  · rw [if_pos h1, if_neg (by omega), show a - 6 = cs.length by omega, List.getD_eq_getElem?_getD, List.getElem?_append_right (Nat.le_refl _), Nat.sub_self]
    rfl
  · rw [if_neg h1]
    by_cases h2 : a < 6
    · rw [if_pos h2, if_pos h2]
    · rw [if_neg h2, if_neg h2, List.getD_eq_getElem?_getD, List.getD_eq_getElem?_getD]
      by_cases h3 : a - 6 < cs.length
      · rw [List.getElem?_append_left h3, List.getElem?_append_left h3]
      · rw [List.getElem?_append_right (by omega), List.getElem?_append_right (by omega)]
        obtain ⟨w, hw⟩ : ∃ w, a - 6 - cs.length = w + 1 := ⟨a - 6 - cs.length - 1, by omega⟩
        rw [hw]
        rfl
theorem hl_pR (hn : 6 + cs.length = n) (hk : k < fs.length) : z_pR (z_hl L xs (cs ++ .inr (.inr (ci, fs)) :: rs) sl) (some n) ci k x = some (z_hl L xs (cs ++ .inr (.inr (ci, fs.set k (.inr (.inr x)))) :: rs) sl) := by
  have e := hl_get (L := L) (xs := xs) (o := .inr (.inr (ci, fs))) (rs := rs) (sl := sl) hn
  unfold z_pR
  simp only [e]
  rw [if_pos ⟨by trivial, hk⟩, hl_put hn]
theorem hl_pI (hn : 6 + cs.length = n) (hk : k < fs.length) (ht : ty = 0 ∨ v = 0 ∨ v = 1) : z_pI ty (z_hl L xs (cs ++ .inr (.inr (ci, fs)) :: rs) sl) (some n) ci k v = some (z_hl L xs (cs ++ .inr (.inr (ci, fs.set k (.inl v))) :: rs) sl) := by
  have e := hl_get (L := L) (xs := xs) (o := .inr (.inr (ci, fs))) (rs := rs) (sl := sl) hn
  unfold z_pI
  simp only [e]
  rw [if_pos ⟨by trivial, hk, ht⟩, hl_put hn]
theorem hl_as : z_hl L xs ((cs ++ o :: rs) ++ as) sl = z_hl L xs (cs ++ o :: (rs ++ as)) sl := by rw [List.append_assoc, List.cons_append]
theorem hl_ln (hn : 6 + cs.length = n) : (z_hl L xs (cs ++ o :: rs) sl).1 = n + 1 + rs.length := by
  rw [hl_1, List.length_append, List.length_cons]
  omega
variable {f : z_H → Option z_H} {r : Option z_H}
/-- an array is made and put into a field -/
theorem hl_mk (hn : 6 + cs.length = n) (hk : k < fs.length) : (z_pR (z_nwI t q (z_hl L xs (cs ++ .inr (.inr (ci, fs)) :: rs) sl)) (some n) ci k (some (z_hl L xs (cs ++ .inr (.inr (ci, fs)) :: rs) sl).1)).bind f = f (z_hl L xs (cs ++ .inr (.inr (ci, fs.set k (.inr (.inr (some (n + 1 + rs.length)))))) :: (rs ++ [.inl (t, q, fun _ => 0)])) (sl + q)) := by
  rw [hl_nwI, hl_as, hl_pR hn hk, hl_ln hn]
  rfl
theorem hl_mkR (hn : 6 + cs.length = n) (hk : k < fs.length) : (z_pR (z_nwR t q (z_hl L xs (cs ++ .inr (.inr (ci, fs)) :: rs) sl)) (some n) ci k (some (z_hl L xs (cs ++ .inr (.inr (ci, fs)) :: rs) sl).1)).bind f = f (z_hl L xs (cs ++ .inr (.inr (ci, fs.set k (.inr (.inr (some (n + 1 + rs.length)))))) :: (rs ++ [.inr (.inl (t, q, fun _ => none))])) (sl + q)) := by
  rw [hl_nwR, hl_as, hl_pR hn hk, hl_ln hn]
  rfl
theorem hl_pIb (hn : 6 + cs.length = n) (hk : k < fs.length) (ht : ty = 0 ∨ v = 0 ∨ v = 1) : (z_pI ty (z_hl L xs (cs ++ .inr (.inr (ci, fs)) :: rs) sl) (some n) ci k v).bind f = f (z_hl L xs (cs ++ .inr (.inr (ci, fs.set k (.inl v))) :: rs) sl) := by
  rw [hl_pI hn hk ht]
  rfl
theorem hl_pRb (hn : 6 + cs.length = n) (hk : k < fs.length) : (z_pR (z_hl L xs (cs ++ .inr (.inr (ci, fs)) :: rs) sl) (some n) ci k x).bind f = f (z_hl L xs (cs ++ .inr (.inr (ci, fs.set k (.inr (.inr x)))) :: rs) sl) := by
  rw [hl_pR hn hk]
  rfl
theorem hl_stI {g : Nat → Int32} (hn : 6 + cs.length = n) (hi : z_in i q = true) : z_stI (z_hl L xs (cs ++ .inl (0, q, g) :: rs) sl) (some n) i v = some (z_hl L xs (cs ++ .inl (0, q, z_upi g i.toNatClampNeg v) :: rs) sl) := by
  have e := hl_get (L := L) (xs := xs) (o := .inl (0, q, g)) (rs := rs) (sl := sl) hn
  unfold z_stI
  simp only [e]
  rw [if_pos ⟨by trivial, hi⟩, hl_put hn]
theorem hl_st {g : Nat → Int32} (hi : z_in i q = true) : (z_stI (z_hl L xs (cs ++ [.inl (0, q, g)]) sl) (some (z_hl L xs cs sl0).1) i v).bind f = f (z_hl L xs (cs ++ [.inl (0, q, z_upi g i.toNatClampNeg v)]) sl) := by
  rw [hl_1, hl_stI rfl hi]
  rfl
theorem hl_nul (h : 6 ≤ n) {f : Bool → Option z_H} : (z_nul (some n)).bind f = f false := by
  rw [z_nulS h]
  rfl
theorem hl_nul1 {f : Bool → Option z_H} : (z_nul (some (z_hl L xs cs sl).1)).bind f = f false := hl_nul (by rw [hl_1]; omega)
theorem C41 (h6 : 6 ≤ n) (hn : 6 + cs.length = n) : z_cV 1 41 [.inr (.inr (some n))] (z_hl L xs (cs ++ [.inr (.inr (7, [.inr (.inr none), .inr (.inr none), .inr (.inr none), .inl 0, .inl 0, .inr (.inr none), .inl 0, .inl 0, .inl 0, .inr (.inr none), .inr (.inr none), .inr (.inr none)]))]) sl) = some (z_hl L xs (cs ++ .inr (.inr (7, [.inr (.inr (some (n + 1))), .inr (.inr (some (n + 2))), .inr (.inr (some (n + 3))), .inl 0, .inl (4), .inr (.inr (some (n + 4))), .inl 0, .inl 0, .inl 0, .inr (.inr (some (n + 5))), .inr (.inr (some (n + 6))), .inr (.inr (some (n + 7)))])) :: [.inl (0, 20, fun _ => 0), .inl (0, 20, fun _ => 0), .inr (.inl (3, 12, fun _ => none)), .inl (0, 144, fun _ => 0), .inl (0, 20, fun _ => 0), .inl (0, 20, fun _ => 0), .inl (0, 20, fun _ => 0)]) (sl + 256)) := by
  rw [E41]
  refine (hl_nul h6).trans ?_
  refine (if_pos rfl).trans ?_
  refine (hl_mk hn (Nat.le_of_ble_eq_true rfl)).trans ?_
  refine (hl_mk hn (Nat.le_of_ble_eq_true rfl)).trans ?_
  refine (hl_mkR hn (Nat.le_of_ble_eq_true rfl)).trans ?_
  refine (hl_pIb hn (Nat.le_of_ble_eq_true rfl) (Or.inl rfl)).trans ?_
  refine (hl_mk hn (Nat.le_of_ble_eq_true rfl)).trans ?_
  refine (hl_mk hn (Nat.le_of_ble_eq_true rfl)).trans ?_
  refine (hl_mk hn (Nat.le_of_ble_eq_true rfl)).trans ?_
  refine (hl_mk hn (Nat.le_of_ble_eq_true rfl)).trans ?_
  rfl
theorem C12 (h6 : 6 ≤ n) (hn : 6 + cs.length = n) : z_cV 1 12 [.inr (.inr (some n))] (z_hl L xs (cs ++ [.inr (.inr (2, [.inr (.inr none), .inl 0, .inl 0, .inl 0]))]) sl) = some (z_hl L xs (cs ++ .inr (.inr (2, [.inr (.inr (some (n + 1))), .inl 0, .inl 0, .inl 0])) :: [.inr (.inl (4, 8, fun _ => none))]) (sl + 8)) := by
  rw [E12]
  refine (hl_nul h6).trans ?_
  refine (if_pos rfl).trans ?_
  refine (hl_mkR hn (Nat.le_of_ble_eq_true rfl)).trans ?_
  rfl
theorem C68 (h6 : 6 ≤ n) (hn : 6 + cs.length = n) : z_cV 1 68 [.inr (.inr (some n))] (z_hl L xs (cs ++ [.inr (.inr (9, [.inr (.inr none), .inl 0, .inl 0, .inl 0, .inr (.inr none)]))]) sl) = some (z_hl L xs (cs ++ .inr (.inr (9, [.inr (.inr (some (n + 1))), .inl 0, .inl 0, .inl (-1), .inr (.inr none)])) :: [.inl (2, 60, fun _ => 0)]) (sl + 60)) := by
  rw [E68]
  refine (hl_nul h6).trans ?_
  refine (if_pos rfl).trans ?_
  refine (hl_mk hn (Nat.le_of_ble_eq_true rfl)).trans ?_
  refine (hl_pIb hn (Nat.le_of_ble_eq_true rfl) (Or.inl rfl)).trans ?_
  rfl
theorem C34 (h6 : 6 ≤ n) (hn : 6 + cs.length = n) : z_cV 1 34 [.inr (.inr (some n))] (z_hl L xs (cs ++ [.inr (.inr (5, [.inr (.inr none), .inr (.inr none), .inr (.inr none), .inr (.inr none), .inl 0]))]) sl) = some (z_hl L xs (cs ++ .inr (.inr (5, [.inr (.inr (some (n + 1))), .inr (.inr (some (n + 2))), .inr (.inr (some (n + 3))), .inr (.inr (some (n + 4))), .inl 0])) :: [.inl (0, 8, fun _ => 0), .inl (0, 8, fun _ => 0), .inl (0, 8, fun _ => 0), .inl (0, 8, fun _ => 0)]) (sl + 32)) := by
  rw [E34]
  refine (hl_nul h6).trans ?_
  refine (if_pos rfl).trans ?_
  refine (hl_mk hn (Nat.le_of_ble_eq_true rfl)).trans ?_
  refine (hl_mk hn (Nat.le_of_ble_eq_true rfl)).trans ?_
  refine (hl_mk hn (Nat.le_of_ble_eq_true rfl)).trans ?_
  refine (hl_mk hn (Nat.le_of_ble_eq_true rfl)).trans ?_
  rfl
theorem C16 (h6 : 6 ≤ n) (hn : 6 + cs.length = n) : z_cV 1 16 [.inr (.inr (some n))] (z_hl L xs (cs ++ [.inr (.inr (3, [.inr (.inr none), .inr (.inr none), .inr (.inr none), .inr (.inr none), .inr (.inr none), .inr (.inr none), .inl 0, .inr (.inr none), .inr (.inr none), .inl 0, .inl 0, .inl 0, .inr (.inr none), .inl 0]))]) sl) = some (z_hl L xs (cs ++ .inr (.inr (3, [.inr (.inr (some (n + 1))), .inr (.inr (some (n + 2))), .inr (.inr (some (n + 3))), .inr (.inr (some (n + 4))), .inr (.inr (some (n + 5))), .inr (.inr (some (n + 6))), .inl 0, .inr (.inr (some (n + 7))), .inr (.inr (some (n + 8))), .inl (1), .inl 0, .inl 0, .inr (.inr (some (n + 9))), .inl 0])) :: [.inl (0, 7, fun _ => 0), .inl (0, 7, fun _ => 0), .inl (0, 7, fun _ => 0), .inl (0, 7, fun _ => 0), .inl (0, 7, fun _ => 0), .inl (0, 7, fun _ => 0), .inl (0, 7, fun _ => 0), .inl (0, 7, fun _ => 0), .inl (0, 12, fun _ => 0)]) (sl + 68)) := by
  rw [E16]
  refine (hl_nul h6).trans ?_
  refine (if_pos rfl).trans ?_
  refine (hl_mk hn (Nat.le_of_ble_eq_true rfl)).trans ?_
  refine (hl_mk hn (Nat.le_of_ble_eq_true rfl)).trans ?_
  refine (hl_mk hn (Nat.le_of_ble_eq_true rfl)).trans ?_
  refine (hl_mk hn (Nat.le_of_ble_eq_true rfl)).trans ?_
  refine (hl_mk hn (Nat.le_of_ble_eq_true rfl)).trans ?_
  refine (hl_mk hn (Nat.le_of_ble_eq_true rfl)).trans ?_
  refine (hl_mk hn (Nat.le_of_ble_eq_true rfl)).trans ?_
  refine (hl_mk hn (Nat.le_of_ble_eq_true rfl)).trans ?_
  refine (hl_pIb hn (Nat.le_of_ble_eq_true rfl) (Or.inr (Or.inr rfl))).trans ?_
  refine (hl_mk hn (Nat.le_of_ble_eq_true rfl)).trans ?_
  rfl
theorem C59 (h6 : 6 ≤ n) (hn : 6 + cs.length = n) : z_cV 1 59 [.inr (.inr (some n))] (z_hl L xs (cs ++ [.inr (.inr (8, [.inl 0, .inr (.inr none), .inr (.inr none), .inr (.inr none), .inr (.inr none), .inr (.inr none), .inl 0, .inr (.inr none), .inr (.inr none), .inr (.inr none), .inr (.inr none), .inl 0]))]) sl) = some (z_hl L xs (cs ++ .inr (.inr (8, [.inl 0, .inr (.inr (some (n + 1))), .inr (.inr (some (n + 2))), .inr (.inr (some (n + 3))), .inr (.inr (some (n + 4))), .inr (.inr (some (n + 5))), .inl 0, .inr (.inr (some (n + 6))), .inr (.inr (some (n + 7))), .inr (.inr (some (n + 8))), .inr (.inr (some (n + 9))), .inl 0])) :: [.inl (0, 60, fun _ => 0), .inl (0, 60, fun _ => 0), .inl (0, 60, fun _ => 0), .inl (0, 60, fun _ => 0), .inl (0, 60, fun _ => 0), .inl (0, 20, fun _ => 0), .inl (0, 20, fun _ => 0), .inl (0, 20, fun _ => 0), .inl (0, 20, fun _ => 0)]) (sl + 380)) := by
  rw [E59]
  refine (hl_nul h6).trans ?_
  refine (if_pos rfl).trans ?_
  refine (hl_mk hn (Nat.le_of_ble_eq_true rfl)).trans ?_
  refine (hl_mk hn (Nat.le_of_ble_eq_true rfl)).trans ?_
  refine (hl_mk hn (Nat.le_of_ble_eq_true rfl)).trans ?_
  refine (hl_mk hn (Nat.le_of_ble_eq_true rfl)).trans ?_
  refine (hl_mk hn (Nat.le_of_ble_eq_true rfl)).trans ?_
  refine (hl_mk hn (Nat.le_of_ble_eq_true rfl)).trans ?_
  refine (hl_mk hn (Nat.le_of_ble_eq_true rfl)).trans ?_
  refine (hl_mk hn (Nat.le_of_ble_eq_true rfl)).trans ?_
  refine (hl_mk hn (Nat.le_of_ble_eq_true rfl)).trans ?_
  rfl
end ZUD
