/-! the heap as a function of its numbers -/
/-- what a cell is: an array of numbers (kind, length), of references, a thing (its class; its fields: 0 int, 1 boolean, 2 a reference, 10 and more: always the cell of that number less 10) -/
abbrev z_Sh : Type := (Nat × Nat) ⊕ ((Nat × Nat) ⊕ (Nat × List Nat))
def z_sh0 : List z_Sh := [.inl (10, 0), .inl (10, 8), .inl (10, 8), .inr (.inr (12, [14, 0])), .inl (12, 7), .inl (99, 0), .inr (.inr (10, [17, 18, 26, 28, 33, 38, 48, 52])), .inl (0, 7), .inr (.inr (7, [19, 20, 21, 0, 0, 22, 0, 0, 0, 23, 24, 25])), .inl (0, 20), .inl (0, 20), .inr (.inl (3, 12)), .inl (0, 144), .inl (0, 20), .inl (0, 20), .inl (0, 20), .inr (.inr (2, [27, 0, 0, 0])), .inr (.inl (4, 8)), .inr (.inr (6, [29, 31, 0, 32])), .inr (.inr (9, [30, 0, 0, 0, 2])), .inl (2, 60), .inr (.inl (5, 6)), .inl (0, 7), .inr (.inr (5, [34, 35, 36, 37, 0])), .inl (0, 8), .inl (0, 8), .inl (0, 8), .inl (0, 8), .inr (.inr (3, [39, 40, 41, 42, 43, 44, 0, 45, 46, 1, 0, 0, 47, 0])), .inl (0, 7), .inl (0, 7), .inl (0, 7), .inl (0, 7), .inl (0, 7), .inl (0, 7), .inl (0, 7), .inl (0, 7), .inl (0, 12), .inr (.inr (1, [49, 50, 51, 0, 0])), .inl (0, 8), .inl (0, 4), .inl (0, 4), .inr (.inr (8, [0, 53, 54, 55, 56, 57, 0, 58, 59, 60, 61, 0])), .inl (0, 60), .inl (0, 60), .inl (0, 60), .inl (0, 60), .inl (0, 60), .inl (0, 20), .inl (0, 20), .inl (0, 20), .inl (0, 20), .inr (.inr (11, [63, 64, 0, 65, 66, 67, 68, 69, 70, 71, 72, 0, 0, 73, 74, 0, 0, 75, 0, 76, 77, 78, 79, 80, 81, 0, 0, 82, 0, 83, 84, 85, 0, 0, 86, 0, 87, 0, 0, 0, 88, 0, 89, 90, 91, 92, 0, 93, 94, 0, 0, 95, 96])), .inl (1, 400), .inl (1, 400), .inl (0, 12), .inl (0, 12), .inl (0, 12), .inl (0, 12), .inl (0, 12), .inl (0, 12), .inl (0, 12), .inl (0, 480), .inl (0, 48), .inl (0, 3), .inl (2, 60), .inl (2, 366), .inl (0, 6), .inl (0, 7), .inl (1, 7), .inl (1, 7), .inl (1, 7), .inl (0, 32), .inl (0, 42), .inl (0, 7), .inl (0, 7), .inl (0, 12), .inl (0, 8), .inl (0, 300), .inl (0, 80), .inl (0, 10), .inl (0, 120), .inl (0, 120), .inl (1, 400), .inl (1, 400), .inl (0, 3), .inl (0, 7)]
def z_shp (L : Nat) (Dh : Nat → z_Sh) (a : Nat) : z_Sh := if a < 87 then (if a = 0 then .inl (10, L) else z_sh0.getD a (.inl (99, 0))) else Dh a
def z_fd (k : Nat) (S : Int32) (R : Option Nat) : z_V := if k = 2 then .inr (.inr R) else if k < 10 then .inl S else .inr (.inr (some (k - 10)))
def z_flds : List Nat → Nat → (Nat → Int32) → (Nat → Option Nat) → List z_V
  | [], _, _, _ => []
  | k :: ks, j, S, R => z_fd k (S j) (R j) :: z_flds ks (j + 1) S R
def z_cell (s : z_Sh) (S : Nat → Int32) (R : Nat → Option Nat) : z_C := match s with
  | .inl (t, n) => .inl (t, n, S)
  | .inr (.inl (t, n)) => .inr (.inl (t, n, R))
  | .inr (.inr (ci, ks)) => .inr (.inr (ci, z_flds ks 0 S R))
def z_mk (L : Nat) (Dh : Nat → z_Sh) (S : Nat → Nat → Int32) (R : Nat → Nat → Option Nat) (nx sl : Nat) : z_H := (nx, sl, fun a => z_cell (z_shp L Dh a) (S a) (R a))
def z_ups (S : Nat → Nat → Int32) (a i : Nat) (x : Int32) : Nat → Nat → Int32 := fun b => if b = a then z_upi (S b) i x else S b
def z_upR (R : Nat → Nat → Option Nat) (a i : Nat) (x : Option Nat) : Nat → Nat → Option Nat := fun b => if b = a then z_upr (R b) i x else R b
section ZHM
variable {L : Nat} {Dh : Nat → z_Sh} {S : Nat → Nat → Int32} {R : Nat → Nat → Option Nat} {nx sl : Nat} {a ci k t n : Nat} {ks : List Nat} {i x : Int32}
theorem z_flds_get : ∀ (ks : List Nat) (j k : Nat) (S : Nat → Int32) (R : Nat → Option Nat), (z_flds ks j S R)[k]? = (ks[k]?).map fun t => z_fd t (S (j + k)) (R (j + k))
  | [], j, k, S, R => rfl
  | t :: ks, j, 0, S, R => rfl
  | t :: ks, j, k + 1, S, R => by
    show (z_flds ks (j + 1) S R)[k]? = _
    rw [z_flds_get ks (j + 1) k S R, show j + 1 + k = j + (k + 1) by omega]
    rfl
theorem z_flds_len : ∀ (ks : List Nat) (j : Nat) (S : Nat → Int32) (R : Nat → Option Nat), (z_flds ks j S R).length = ks.length
  | [], j, S, R => rfl
  | t :: ks, j, S, R => by show (z_flds ks (j + 1) S R).length + 1 = _; rw [z_flds_len]; rfl
theorem z_fd_int {t : Nat} (ht : ¬ t = 2 ∧ t < 10) (s : Int32) (r : Option Nat) : z_fd t s r = .inl s := by unfold z_fd; rw [if_neg ht.1, if_pos ht.2]
theorem m_gI (h : z_shp L Dh a = .inr (.inr (ci, ks))) (hk : ks[k]? = some t) (ht : ¬ t = 2 ∧ t < 10) : z_gI (z_mk L Dh S R nx sl) (some a) ci k = some (S a k) := by
  have e : (z_mk L Dh S R nx sl).2.2 a = .inr (.inr (ci, z_flds ks 0 (S a) (R a))) := by show z_cell (z_shp L Dh a) (S a) (R a) = _; rw [h]; rfl
  unfold z_gI
  simp only [e, if_true]
  rw [z_flds_get, hk]
  simp only [Option.map_some, z_fd_int ht, Nat.zero_add]
theorem m_gR (h : z_shp L Dh a = .inr (.inr (ci, ks))) (hk : ks[k]? = some 2) : z_gR (z_mk L Dh S R nx sl) (some a) ci k = some (R a k) := by
  have e : (z_mk L Dh S R nx sl).2.2 a = .inr (.inr (ci, z_flds ks 0 (S a) (R a))) := by show z_cell (z_shp L Dh a) (S a) (R a) = _; rw [h]; rfl
  unfold z_gR
  simp only [e, if_true]
  rw [z_flds_get, hk]
  simp only [Option.map_some, z_fd, if_true, Nat.zero_add]
theorem m_gC (h : z_shp L Dh a = .inr (.inr (ci, ks))) (hk : ks[k]? = some (n + 10)) : z_gR (z_mk L Dh S R nx sl) (some a) ci k = some (some n) := by
  have e : (z_mk L Dh S R nx sl).2.2 a = .inr (.inr (ci, z_flds ks 0 (S a) (R a))) := by show z_cell (z_shp L Dh a) (S a) (R a) = _; rw [h]; rfl
  unfold z_gR
  simp only [e, if_true]
  rw [z_flds_get, hk]
  have h1 : ¬ (n + 10 = 2) := by omega
  have h2 : ¬ (n + 10 < 10) := by omega
  simp only [Option.map_some, z_fd, if_neg h1, if_neg h2, Nat.add_sub_cancel]
theorem m_ob (h : z_shp L Dh a = .inr (.inr (ci, ks))) : z_ob (z_mk L Dh S R nx sl) (some a) ci = some () := by
  have e : (z_mk L Dh S R nx sl).2.2 a = .inr (.inr (ci, z_flds ks 0 (S a) (R a))) := by show z_cell (z_shp L Dh a) (S a) (R a) = _; rw [h]; rfl
  unfold z_ob
  simp only [e, if_true]
theorem m_ext {c : z_C} {S' : Nat → Nat → Int32} {R' : Nat → Nat → Option Nat} (hS : ∀ b, b ≠ a → S' b = S b) (hR : ∀ b, b ≠ a → R' b = R b) (hc : c = z_cell (z_shp L Dh a) (S' a) (R' a)) : z_put (z_mk L Dh S R nx sl) a c = z_mk L Dh S' R' nx sl := by
  unfold z_put z_mk
  congr 2
  funext b
  unfold z_upd
  by_cases hb : b = a
  · subst hb; rw [if_pos rfl]; exact hc
  · rw [if_neg hb, hS b hb, hR b hb]
theorem z_ups_ne {b : Nat} (hb : b ≠ a) : z_ups S a k x b = S b := by unfold z_ups; rw [if_neg hb]
theorem z_upR_ne {b : Nat} {r : Option Nat} (hb : b ≠ a) : z_upR R a k r b = R b := by unfold z_upR; rw [if_neg hb]
theorem z_flds_set (S : Nat → Int32) (R : Nat → Option Nat) (hk : ks[k]? = some t) (ht : ¬ t = 2 ∧ t < 10) : (z_flds ks 0 S R).set k (.inl x) = z_flds ks 0 (z_upi S k x) R := by
  apply List.ext_getElem?
  intro j
  rw [List.getElem?_set, z_flds_get, z_flds_get, z_flds_len]
  simp only [Nat.zero_add]
  by_cases hj : k = j
  · subst hj
    have hl : k < ks.length := (List.getElem?_eq_some_iff.mp hk).1
    rw [if_pos rfl, if_pos hl, hk]
    simp only [Option.map_some, z_fd_int ht]
    unfold z_upi
    rw [if_pos rfl]
  · rw [if_neg hj]
    unfold z_upi
    rw [if_neg (fun e => hj e.symm)]
theorem z_flds_setR {r : Option Nat} (S : Nat → Int32) (R : Nat → Option Nat) (hk : ks[k]? = some 2) : (z_flds ks 0 S R).set k (.inr (.inr r)) = z_flds ks 0 S (z_upr R k r) := by
  apply List.ext_getElem?
  intro j
  rw [List.getElem?_set, z_flds_get, z_flds_get, z_flds_len]
  simp only [Nat.zero_add]
  by_cases hj : k = j
  · subst hj
    have hl : k < ks.length := (List.getElem?_eq_some_iff.mp hk).1
    rw [if_pos rfl, if_pos hl, hk]
    simp only [Option.map_some, z_fd, if_true]
    unfold z_upr
    rw [if_pos rfl]
  · rw [if_neg hj]
    unfold z_upr
    rw [if_neg (fun e => hj e.symm)]
theorem m_pI {ty : Nat} (h : z_shp L Dh a = .inr (.inr (ci, ks))) (hk : ks[k]? = some t) (ht : ¬ t = 2 ∧ t < 10) (hx : ty = 0 ∨ x = 0 ∨ x = 1) : z_pI ty (z_mk L Dh S R nx sl) (some a) ci k x = some (z_mk L Dh (z_ups S a k x) R nx sl) := by
  have e : (z_mk L Dh S R nx sl).2.2 a = .inr (.inr (ci, z_flds ks 0 (S a) (R a))) := by show z_cell (z_shp L Dh a) (S a) (R a) = _; rw [h]; rfl
  have hl : k < (z_flds ks 0 (S a) (R a)).length := by rw [z_flds_len]; exact (List.getElem?_eq_some_iff.mp hk).1
  unfold z_pI
  simp only [e]
  rw [if_pos ⟨by trivial, hl, hx⟩]
  congr 1
  refine m_ext (fun b hb => z_ups_ne hb) (fun b hb => rfl) ?_
  rw [h]
  show _ = Sum.inr (Sum.inr (ci, z_flds ks 0 (z_ups S a k x a) (R a)))
  unfold z_ups
  rw [if_pos rfl, z_flds_set _ _ hk ht]
theorem m_pR {r : Option Nat} (h : z_shp L Dh a = .inr (.inr (ci, ks))) (hk : ks[k]? = some 2) : z_pR (z_mk L Dh S R nx sl) (some a) ci k r = some (z_mk L Dh S (z_upR R a k r) nx sl) := by
  have e : (z_mk L Dh S R nx sl).2.2 a = .inr (.inr (ci, z_flds ks 0 (S a) (R a))) := by show z_cell (z_shp L Dh a) (S a) (R a) = _; rw [h]; rfl
  have hl : k < (z_flds ks 0 (S a) (R a)).length := by rw [z_flds_len]; exact (List.getElem?_eq_some_iff.mp hk).1
  unfold z_pR
  simp only [e]
  rw [if_pos ⟨by trivial, hl⟩]
  congr 1
  refine m_ext (fun b hb => rfl) (fun b hb => z_upR_ne hb) ?_
  rw [h]
  show _ = Sum.inr (Sum.inr (ci, z_flds ks 0 (S a) (z_upR R a k r a)))
  unfold z_upR
  rw [if_pos rfl, z_flds_setR _ _ hk]
theorem m_len (h : z_shp L Dh a = .inl (t, n)) (ht : ¬ t = 99) : z_len (z_mk L Dh S R nx sl) (some a) = some (Int32.ofNat n) := by
  have e : (z_mk L Dh S R nx sl).2.2 a = .inl (t, n, S a) := by show z_cell (z_shp L Dh a) (S a) (R a) = _; rw [h]; rfl
  unfold z_len
  simp only [e]
  rw [if_neg ht]
theorem m_ldI (h : z_shp L Dh a = .inl (t, n)) (ht : t = 0 ∨ t = 10) (hi : z_in i n = true) : z_ldI (z_mk L Dh S R nx sl) (some a) i = some (S a i.toNatClampNeg) := by
  have e : (z_mk L Dh S R nx sl).2.2 a = .inl (t, n, S a) := by show z_cell (z_shp L Dh a) (S a) (R a) = _; rw [h]; rfl
  unfold z_ldI
  simp only [e]
  rw [if_pos ⟨ht, hi⟩]
theorem m_ldB (h : z_shp L Dh a = .inl (t, n)) (ht : t = 1 ∨ t = 2 ∨ t = 12) (hi : z_in i n = true) : z_ldB (z_mk L Dh S R nx sl) (some a) i = some (S a i.toNatClampNeg) := by
  have e : (z_mk L Dh S R nx sl).2.2 a = .inl (t, n, S a) := by show z_cell (z_shp L Dh a) (S a) (R a) = _; rw [h]; rfl
  unfold z_ldB
  simp only [e]
  rw [if_pos ⟨ht, hi⟩]
theorem m_ldR (h : z_shp L Dh a = .inr (.inl (t, n))) (hi : z_in i n = true) : z_ldR (z_mk L Dh S R nx sl) (some a) i = some (R a i.toNatClampNeg) := by
  have e : (z_mk L Dh S R nx sl).2.2 a = .inr (.inl (t, n, R a)) := by show z_cell (z_shp L Dh a) (S a) (R a) = _; rw [h]; rfl
  unfold z_ldR
  simp only [e]
  rw [if_pos hi]
theorem m_stI (h : z_shp L Dh a = .inl (0, n)) (hi : z_in i n = true) : z_stI (z_mk L Dh S R nx sl) (some a) i x = some (z_mk L Dh (z_ups S a i.toNatClampNeg x) R nx sl) := by
  have e : (z_mk L Dh S R nx sl).2.2 a = .inl (0, n, S a) := by show z_cell (z_shp L Dh a) (S a) (R a) = _; rw [h]; rfl
  unfold z_stI
  simp only [e]
  rw [if_pos ⟨by trivial, hi⟩]
  congr 1
  refine m_ext (fun b hb => z_ups_ne hb) (fun b hb => rfl) ?_
  rw [h]
  show _ = Sum.inl (0, n, z_ups S a i.toNatClampNeg x a)
  unfold z_ups
  rw [if_pos rfl]
theorem m_stZ (h : z_shp L Dh a = .inl (1, n)) (hi : z_in i n = true) (hx : x = 0 ∨ x = 1) : z_stB (z_mk L Dh S R nx sl) (some a) i x = some (z_mk L Dh (z_ups S a i.toNatClampNeg x) R nx sl) := by
  have e : (z_mk L Dh S R nx sl).2.2 a = .inl (1, n, S a) := by show z_cell (z_shp L Dh a) (S a) (R a) = _; rw [h]; rfl
  unfold z_stB
  simp only [e]
  rw [if_pos ⟨by trivial, hx, hi⟩]
  congr 1
  refine m_ext (fun b hb => z_ups_ne hb) (fun b hb => rfl) ?_
  rw [h]
  show _ = Sum.inl (1, n, z_ups S a i.toNatClampNeg x a)
  unfold z_ups
  rw [if_pos rfl]
theorem m_stB (h : z_shp L Dh a = .inl (2, n)) (hi : z_in i n = true) : z_stB (z_mk L Dh S R nx sl) (some a) i x = some (z_mk L Dh (z_ups S a i.toNatClampNeg x.toInt8.toInt32) R nx sl) := by
  have e : (z_mk L Dh S R nx sl).2.2 a = .inl (2, n, S a) := by show z_cell (z_shp L Dh a) (S a) (R a) = _; rw [h]; rfl
  unfold z_stB
  simp only [e]
  rw [if_neg (by rintro ⟨q, -⟩; cases q), if_pos ⟨by trivial, hi⟩]
  congr 1
  refine m_ext (fun b hb => z_ups_ne hb) (fun b hb => rfl) ?_
  rw [h]
  show _ = Sum.inl (2, n, z_ups S a i.toNatClampNeg x.toInt8.toInt32 a)
  unfold z_ups
  rw [if_pos rfl]
theorem m_stR {b cj : Nat} {js : List Nat} (h : z_shp L Dh a = .inr (.inl (t, n))) (ht : t = 3 ∨ t = 4 ∨ t = 5) (hb : z_shp L Dh b = .inr (.inr (cj, js))) (hc : cj = z_tc t) (hi : z_in i n = true) : z_stR (z_mk L Dh S R nx sl) (some a) i (some b) = some (z_mk L Dh S (z_upR R a i.toNatClampNeg (some b)) nx sl) := by
  have e : (z_mk L Dh S R nx sl).2.2 a = .inr (.inl (t, n, R a)) := by show z_cell (z_shp L Dh a) (S a) (R a) = _; rw [h]; rfl
  have e2 : (z_mk L Dh S R nx sl).2.2 b = .inr (.inr (cj, z_flds js 0 (S b) (R b))) := by show z_cell (z_shp L Dh b) (S b) (R b) = _; rw [hb]; rfl
  unfold z_stR
  simp only [e, e2]
  rw [if_pos ⟨ht, hc, hi⟩]
  congr 1
  refine m_ext (fun b hb => rfl) (fun b hb => z_upR_ne hb) ?_
  rw [h]
  show _ = Sum.inr (Sum.inl (t, n, z_upR R a i.toNatClampNeg (some b) a))
  unfold z_upR
  rw [if_pos rfl]
end ZHM
section ZHS
variable {L : Nat} {Dh : Nat → z_Sh} {S : Nat → Nat → Int32} {R : Nat → Nat → Option Nat} {nx sl : Nat}
theorem o_6 : z_ob (z_mk L Dh S R nx sl) (some 6) 10 = some () := m_ob rfl
theorem g_6_0 : z_gR (z_mk L Dh S R nx sl) (some 6) 10 0 = some (some 7) := m_gC rfl rfl
theorem g_6_1 : z_gR (z_mk L Dh S R nx sl) (some 6) 10 1 = some (some 8) := m_gC rfl rfl
theorem g_6_2 : z_gR (z_mk L Dh S R nx sl) (some 6) 10 2 = some (some 16) := m_gC rfl rfl
theorem g_6_3 : z_gR (z_mk L Dh S R nx sl) (some 6) 10 3 = some (some 18) := m_gC rfl rfl
theorem g_6_4 : z_gR (z_mk L Dh S R nx sl) (some 6) 10 4 = some (some 23) := m_gC rfl rfl
theorem g_6_5 : z_gR (z_mk L Dh S R nx sl) (some 6) 10 5 = some (some 28) := m_gC rfl rfl
theorem g_6_6 : z_gR (z_mk L Dh S R nx sl) (some 6) 10 6 = some (some 38) := m_gC rfl rfl
theorem g_6_7 : z_gR (z_mk L Dh S R nx sl) (some 6) 10 7 = some (some 42) := m_gC rfl rfl
theorem l_7 {i : Int32} (hi : z_in i 7 = true) : z_ldI (z_mk L Dh S R nx sl) (some 7) i = some (S 7 i.toNatClampNeg) := m_ldI rfl (Or.inl rfl) hi
theorem s_7 {i x : Int32} (hi : z_in i 7 = true) : z_stI (z_mk L Dh S R nx sl) (some 7) i x = some (z_mk L Dh (z_ups S 7 i.toNatClampNeg x) R nx sl) := m_stI rfl hi
theorem n_7 : z_len (z_mk L Dh S R nx sl) (some 7) = some 7 := m_len rfl (by decide)
theorem o_8 : z_ob (z_mk L Dh S R nx sl) (some 8) 7 = some () := m_ob rfl
theorem g_8_0 : z_gR (z_mk L Dh S R nx sl) (some 8) 7 0 = some (some 9) := m_gC rfl rfl
theorem g_8_1 : z_gR (z_mk L Dh S R nx sl) (some 8) 7 1 = some (some 10) := m_gC rfl rfl
theorem g_8_2 : z_gR (z_mk L Dh S R nx sl) (some 8) 7 2 = some (some 11) := m_gC rfl rfl
theorem g_8_3 : z_gI (z_mk L Dh S R nx sl) (some 8) 7 3 = some (S 8 3) := m_gI rfl rfl (by decide)
theorem p_8_3 (x : Int32) : z_pI 0 (z_mk L Dh S R nx sl) (some 8) 7 3 x = some (z_mk L Dh (z_ups S 8 3 x) R nx sl) := m_pI rfl rfl (by decide) (Or.inl rfl)
theorem g_8_4 : z_gI (z_mk L Dh S R nx sl) (some 8) 7 4 = some (S 8 4) := m_gI rfl rfl (by decide)
theorem p_8_4 (x : Int32) : z_pI 0 (z_mk L Dh S R nx sl) (some 8) 7 4 x = some (z_mk L Dh (z_ups S 8 4 x) R nx sl) := m_pI rfl rfl (by decide) (Or.inl rfl)
theorem g_8_5 : z_gR (z_mk L Dh S R nx sl) (some 8) 7 5 = some (some 12) := m_gC rfl rfl
theorem g_8_6 : z_gI (z_mk L Dh S R nx sl) (some 8) 7 6 = some (S 8 6) := m_gI rfl rfl (by decide)
theorem p_8_6 (x : Int32) : z_pI 0 (z_mk L Dh S R nx sl) (some 8) 7 6 x = some (z_mk L Dh (z_ups S 8 6 x) R nx sl) := m_pI rfl rfl (by decide) (Or.inl rfl)
theorem g_8_7 : z_gI (z_mk L Dh S R nx sl) (some 8) 7 7 = some (S 8 7) := m_gI rfl rfl (by decide)
theorem p_8_7 (x : Int32) : z_pI 0 (z_mk L Dh S R nx sl) (some 8) 7 7 x = some (z_mk L Dh (z_ups S 8 7 x) R nx sl) := m_pI rfl rfl (by decide) (Or.inl rfl)
theorem g_8_8 : z_gI (z_mk L Dh S R nx sl) (some 8) 7 8 = some (S 8 8) := m_gI rfl rfl (by decide)
theorem p_8_8 (x : Int32) : z_pI 0 (z_mk L Dh S R nx sl) (some 8) 7 8 x = some (z_mk L Dh (z_ups S 8 8 x) R nx sl) := m_pI rfl rfl (by decide) (Or.inl rfl)
theorem g_8_9 : z_gR (z_mk L Dh S R nx sl) (some 8) 7 9 = some (some 13) := m_gC rfl rfl
theorem g_8_10 : z_gR (z_mk L Dh S R nx sl) (some 8) 7 10 = some (some 14) := m_gC rfl rfl
theorem g_8_11 : z_gR (z_mk L Dh S R nx sl) (some 8) 7 11 = some (some 15) := m_gC rfl rfl
theorem l_9 {i : Int32} (hi : z_in i 20 = true) : z_ldI (z_mk L Dh S R nx sl) (some 9) i = some (S 9 i.toNatClampNeg) := m_ldI rfl (Or.inl rfl) hi
theorem s_9 {i x : Int32} (hi : z_in i 20 = true) : z_stI (z_mk L Dh S R nx sl) (some 9) i x = some (z_mk L Dh (z_ups S 9 i.toNatClampNeg x) R nx sl) := m_stI rfl hi
theorem n_9 : z_len (z_mk L Dh S R nx sl) (some 9) = some 20 := m_len rfl (by decide)
theorem l_10 {i : Int32} (hi : z_in i 20 = true) : z_ldI (z_mk L Dh S R nx sl) (some 10) i = some (S 10 i.toNatClampNeg) := m_ldI rfl (Or.inl rfl) hi
theorem s_10 {i x : Int32} (hi : z_in i 20 = true) : z_stI (z_mk L Dh S R nx sl) (some 10) i x = some (z_mk L Dh (z_ups S 10 i.toNatClampNeg x) R nx sl) := m_stI rfl hi
theorem n_10 : z_len (z_mk L Dh S R nx sl) (some 10) = some 20 := m_len rfl (by decide)
theorem l_11 {i : Int32} (hi : z_in i 12 = true) : z_ldR (z_mk L Dh S R nx sl) (some 11) i = some (R 11 i.toNatClampNeg) := m_ldR rfl hi
theorem l_12 {i : Int32} (hi : z_in i 144 = true) : z_ldI (z_mk L Dh S R nx sl) (some 12) i = some (S 12 i.toNatClampNeg) := m_ldI rfl (Or.inl rfl) hi
theorem s_12 {i x : Int32} (hi : z_in i 144 = true) : z_stI (z_mk L Dh S R nx sl) (some 12) i x = some (z_mk L Dh (z_ups S 12 i.toNatClampNeg x) R nx sl) := m_stI rfl hi
theorem n_12 : z_len (z_mk L Dh S R nx sl) (some 12) = some 144 := m_len rfl (by decide)
theorem l_13 {i : Int32} (hi : z_in i 20 = true) : z_ldI (z_mk L Dh S R nx sl) (some 13) i = some (S 13 i.toNatClampNeg) := m_ldI rfl (Or.inl rfl) hi
theorem s_13 {i x : Int32} (hi : z_in i 20 = true) : z_stI (z_mk L Dh S R nx sl) (some 13) i x = some (z_mk L Dh (z_ups S 13 i.toNatClampNeg x) R nx sl) := m_stI rfl hi
theorem n_13 : z_len (z_mk L Dh S R nx sl) (some 13) = some 20 := m_len rfl (by decide)
theorem l_14 {i : Int32} (hi : z_in i 20 = true) : z_ldI (z_mk L Dh S R nx sl) (some 14) i = some (S 14 i.toNatClampNeg) := m_ldI rfl (Or.inl rfl) hi
theorem s_14 {i x : Int32} (hi : z_in i 20 = true) : z_stI (z_mk L Dh S R nx sl) (some 14) i x = some (z_mk L Dh (z_ups S 14 i.toNatClampNeg x) R nx sl) := m_stI rfl hi
theorem n_14 : z_len (z_mk L Dh S R nx sl) (some 14) = some 20 := m_len rfl (by decide)
theorem l_15 {i : Int32} (hi : z_in i 20 = true) : z_ldI (z_mk L Dh S R nx sl) (some 15) i = some (S 15 i.toNatClampNeg) := m_ldI rfl (Or.inl rfl) hi
theorem s_15 {i x : Int32} (hi : z_in i 20 = true) : z_stI (z_mk L Dh S R nx sl) (some 15) i x = some (z_mk L Dh (z_ups S 15 i.toNatClampNeg x) R nx sl) := m_stI rfl hi
theorem n_15 : z_len (z_mk L Dh S R nx sl) (some 15) = some 20 := m_len rfl (by decide)
theorem o_16 : z_ob (z_mk L Dh S R nx sl) (some 16) 2 = some () := m_ob rfl
theorem g_16_0 : z_gR (z_mk L Dh S R nx sl) (some 16) 2 0 = some (some 17) := m_gC rfl rfl
theorem g_16_1 : z_gI (z_mk L Dh S R nx sl) (some 16) 2 1 = some (S 16 1) := m_gI rfl rfl (by decide)
theorem p_16_1 (x : Int32) : z_pI 0 (z_mk L Dh S R nx sl) (some 16) 2 1 x = some (z_mk L Dh (z_ups S 16 1 x) R nx sl) := m_pI rfl rfl (by decide) (Or.inl rfl)
theorem g_16_2 : z_gI (z_mk L Dh S R nx sl) (some 16) 2 2 = some (S 16 2) := m_gI rfl rfl (by decide)
theorem p_16_2 (x : Int32) : z_pI 0 (z_mk L Dh S R nx sl) (some 16) 2 2 x = some (z_mk L Dh (z_ups S 16 2 x) R nx sl) := m_pI rfl rfl (by decide) (Or.inl rfl)
theorem g_16_3 : z_gI (z_mk L Dh S R nx sl) (some 16) 2 3 = some (S 16 3) := m_gI rfl rfl (by decide)
theorem p_16_3 (x : Int32) : z_pI 0 (z_mk L Dh S R nx sl) (some 16) 2 3 x = some (z_mk L Dh (z_ups S 16 3 x) R nx sl) := m_pI rfl rfl (by decide) (Or.inl rfl)
theorem l_17 {i : Int32} (hi : z_in i 8 = true) : z_ldR (z_mk L Dh S R nx sl) (some 17) i = some (R 17 i.toNatClampNeg) := m_ldR rfl hi
theorem o_18 : z_ob (z_mk L Dh S R nx sl) (some 18) 6 = some () := m_ob rfl
theorem g_18_0 : z_gR (z_mk L Dh S R nx sl) (some 18) 6 0 = some (some 19) := m_gC rfl rfl
theorem g_18_1 : z_gR (z_mk L Dh S R nx sl) (some 18) 6 1 = some (some 21) := m_gC rfl rfl
theorem g_18_2 : z_gI (z_mk L Dh S R nx sl) (some 18) 6 2 = some (S 18 2) := m_gI rfl rfl (by decide)
theorem p_18_2 (x : Int32) : z_pI 0 (z_mk L Dh S R nx sl) (some 18) 6 2 x = some (z_mk L Dh (z_ups S 18 2 x) R nx sl) := m_pI rfl rfl (by decide) (Or.inl rfl)
theorem g_18_3 : z_gR (z_mk L Dh S R nx sl) (some 18) 6 3 = some (some 22) := m_gC rfl rfl
theorem o_19 : z_ob (z_mk L Dh S R nx sl) (some 19) 9 = some () := m_ob rfl
theorem g_19_0 : z_gR (z_mk L Dh S R nx sl) (some 19) 9 0 = some (some 20) := m_gC rfl rfl
theorem g_19_1 : z_gI (z_mk L Dh S R nx sl) (some 19) 9 1 = some (S 19 1) := m_gI rfl rfl (by decide)
theorem p_19_1 (x : Int32) : z_pI 0 (z_mk L Dh S R nx sl) (some 19) 9 1 x = some (z_mk L Dh (z_ups S 19 1 x) R nx sl) := m_pI rfl rfl (by decide) (Or.inl rfl)
theorem g_19_2 : z_gI (z_mk L Dh S R nx sl) (some 19) 9 2 = some (S 19 2) := m_gI rfl rfl (by decide)
theorem p_19_2 (x : Int32) : z_pI 0 (z_mk L Dh S R nx sl) (some 19) 9 2 x = some (z_mk L Dh (z_ups S 19 2 x) R nx sl) := m_pI rfl rfl (by decide) (Or.inl rfl)
theorem g_19_3 : z_gI (z_mk L Dh S R nx sl) (some 19) 9 3 = some (S 19 3) := m_gI rfl rfl (by decide)
theorem p_19_3 (x : Int32) : z_pI 0 (z_mk L Dh S R nx sl) (some 19) 9 3 x = some (z_mk L Dh (z_ups S 19 3 x) R nx sl) := m_pI rfl rfl (by decide) (Or.inl rfl)
theorem g_19_4 : z_gR (z_mk L Dh S R nx sl) (some 19) 9 4 = some (R 19 4) := m_gR rfl rfl
theorem p_19_4 (x : Option Nat) : z_pR (z_mk L Dh S R nx sl) (some 19) 9 4 x = some (z_mk L Dh S (z_upR R 19 4 x) nx sl) := m_pR rfl rfl
theorem l_20 {i : Int32} (hi : z_in i 60 = true) : z_ldB (z_mk L Dh S R nx sl) (some 20) i = some (S 20 i.toNatClampNeg) := m_ldB rfl (by decide) hi
theorem s_20 {i x : Int32} (hi : z_in i 60 = true) : z_stB (z_mk L Dh S R nx sl) (some 20) i x = some (z_mk L Dh (z_ups S 20 i.toNatClampNeg x.toInt8.toInt32) R nx sl) := m_stB rfl hi
theorem n_20 : z_len (z_mk L Dh S R nx sl) (some 20) = some 60 := m_len rfl (by decide)
theorem l_21 {i : Int32} (hi : z_in i 6 = true) : z_ldR (z_mk L Dh S R nx sl) (some 21) i = some (R 21 i.toNatClampNeg) := m_ldR rfl hi
theorem l_22 {i : Int32} (hi : z_in i 7 = true) : z_ldI (z_mk L Dh S R nx sl) (some 22) i = some (S 22 i.toNatClampNeg) := m_ldI rfl (Or.inl rfl) hi
theorem s_22 {i x : Int32} (hi : z_in i 7 = true) : z_stI (z_mk L Dh S R nx sl) (some 22) i x = some (z_mk L Dh (z_ups S 22 i.toNatClampNeg x) R nx sl) := m_stI rfl hi
theorem n_22 : z_len (z_mk L Dh S R nx sl) (some 22) = some 7 := m_len rfl (by decide)
theorem o_23 : z_ob (z_mk L Dh S R nx sl) (some 23) 5 = some () := m_ob rfl
theorem g_23_0 : z_gR (z_mk L Dh S R nx sl) (some 23) 5 0 = some (some 24) := m_gC rfl rfl
theorem g_23_1 : z_gR (z_mk L Dh S R nx sl) (some 23) 5 1 = some (some 25) := m_gC rfl rfl
theorem g_23_2 : z_gR (z_mk L Dh S R nx sl) (some 23) 5 2 = some (some 26) := m_gC rfl rfl
theorem g_23_3 : z_gR (z_mk L Dh S R nx sl) (some 23) 5 3 = some (some 27) := m_gC rfl rfl
theorem g_23_4 : z_gI (z_mk L Dh S R nx sl) (some 23) 5 4 = some (S 23 4) := m_gI rfl rfl (by decide)
theorem p_23_4 (x : Int32) : z_pI 0 (z_mk L Dh S R nx sl) (some 23) 5 4 x = some (z_mk L Dh (z_ups S 23 4 x) R nx sl) := m_pI rfl rfl (by decide) (Or.inl rfl)
theorem l_24 {i : Int32} (hi : z_in i 8 = true) : z_ldI (z_mk L Dh S R nx sl) (some 24) i = some (S 24 i.toNatClampNeg) := m_ldI rfl (Or.inl rfl) hi
theorem s_24 {i x : Int32} (hi : z_in i 8 = true) : z_stI (z_mk L Dh S R nx sl) (some 24) i x = some (z_mk L Dh (z_ups S 24 i.toNatClampNeg x) R nx sl) := m_stI rfl hi
theorem n_24 : z_len (z_mk L Dh S R nx sl) (some 24) = some 8 := m_len rfl (by decide)
theorem l_25 {i : Int32} (hi : z_in i 8 = true) : z_ldI (z_mk L Dh S R nx sl) (some 25) i = some (S 25 i.toNatClampNeg) := m_ldI rfl (Or.inl rfl) hi
theorem s_25 {i x : Int32} (hi : z_in i 8 = true) : z_stI (z_mk L Dh S R nx sl) (some 25) i x = some (z_mk L Dh (z_ups S 25 i.toNatClampNeg x) R nx sl) := m_stI rfl hi
theorem n_25 : z_len (z_mk L Dh S R nx sl) (some 25) = some 8 := m_len rfl (by decide)
theorem l_26 {i : Int32} (hi : z_in i 8 = true) : z_ldI (z_mk L Dh S R nx sl) (some 26) i = some (S 26 i.toNatClampNeg) := m_ldI rfl (Or.inl rfl) hi
theorem s_26 {i x : Int32} (hi : z_in i 8 = true) : z_stI (z_mk L Dh S R nx sl) (some 26) i x = some (z_mk L Dh (z_ups S 26 i.toNatClampNeg x) R nx sl) := m_stI rfl hi
theorem n_26 : z_len (z_mk L Dh S R nx sl) (some 26) = some 8 := m_len rfl (by decide)
theorem l_27 {i : Int32} (hi : z_in i 8 = true) : z_ldI (z_mk L Dh S R nx sl) (some 27) i = some (S 27 i.toNatClampNeg) := m_ldI rfl (Or.inl rfl) hi
theorem s_27 {i x : Int32} (hi : z_in i 8 = true) : z_stI (z_mk L Dh S R nx sl) (some 27) i x = some (z_mk L Dh (z_ups S 27 i.toNatClampNeg x) R nx sl) := m_stI rfl hi
theorem n_27 : z_len (z_mk L Dh S R nx sl) (some 27) = some 8 := m_len rfl (by decide)
theorem o_28 : z_ob (z_mk L Dh S R nx sl) (some 28) 3 = some () := m_ob rfl
theorem g_28_0 : z_gR (z_mk L Dh S R nx sl) (some 28) 3 0 = some (some 29) := m_gC rfl rfl
theorem g_28_1 : z_gR (z_mk L Dh S R nx sl) (some 28) 3 1 = some (some 30) := m_gC rfl rfl
theorem g_28_2 : z_gR (z_mk L Dh S R nx sl) (some 28) 3 2 = some (some 31) := m_gC rfl rfl
theorem g_28_3 : z_gR (z_mk L Dh S R nx sl) (some 28) 3 3 = some (some 32) := m_gC rfl rfl
theorem g_28_4 : z_gR (z_mk L Dh S R nx sl) (some 28) 3 4 = some (some 33) := m_gC rfl rfl
theorem g_28_5 : z_gR (z_mk L Dh S R nx sl) (some 28) 3 5 = some (some 34) := m_gC rfl rfl
theorem g_28_6 : z_gI (z_mk L Dh S R nx sl) (some 28) 3 6 = some (S 28 6) := m_gI rfl rfl (by decide)
theorem p_28_6 (x : Int32) : z_pI 0 (z_mk L Dh S R nx sl) (some 28) 3 6 x = some (z_mk L Dh (z_ups S 28 6 x) R nx sl) := m_pI rfl rfl (by decide) (Or.inl rfl)
theorem g_28_7 : z_gR (z_mk L Dh S R nx sl) (some 28) 3 7 = some (some 35) := m_gC rfl rfl
theorem g_28_8 : z_gR (z_mk L Dh S R nx sl) (some 28) 3 8 = some (some 36) := m_gC rfl rfl
theorem g_28_9 : z_gI (z_mk L Dh S R nx sl) (some 28) 3 9 = some (S 28 9) := m_gI rfl rfl (by decide)
theorem p_28_9 (x : Int32) (hx : x = 0 ∨ x = 1) : z_pI 1 (z_mk L Dh S R nx sl) (some 28) 3 9 x = some (z_mk L Dh (z_ups S 28 9 x) R nx sl) := m_pI rfl rfl (by decide) (Or.inr hx)
theorem g_28_10 : z_gI (z_mk L Dh S R nx sl) (some 28) 3 10 = some (S 28 10) := m_gI rfl rfl (by decide)
theorem p_28_10 (x : Int32) : z_pI 0 (z_mk L Dh S R nx sl) (some 28) 3 10 x = some (z_mk L Dh (z_ups S 28 10 x) R nx sl) := m_pI rfl rfl (by decide) (Or.inl rfl)
theorem g_28_11 : z_gI (z_mk L Dh S R nx sl) (some 28) 3 11 = some (S 28 11) := m_gI rfl rfl (by decide)
theorem p_28_11 (x : Int32) : z_pI 0 (z_mk L Dh S R nx sl) (some 28) 3 11 x = some (z_mk L Dh (z_ups S 28 11 x) R nx sl) := m_pI rfl rfl (by decide) (Or.inl rfl)
theorem g_28_12 : z_gR (z_mk L Dh S R nx sl) (some 28) 3 12 = some (some 37) := m_gC rfl rfl
theorem g_28_13 : z_gI (z_mk L Dh S R nx sl) (some 28) 3 13 = some (S 28 13) := m_gI rfl rfl (by decide)
theorem p_28_13 (x : Int32) : z_pI 0 (z_mk L Dh S R nx sl) (some 28) 3 13 x = some (z_mk L Dh (z_ups S 28 13 x) R nx sl) := m_pI rfl rfl (by decide) (Or.inl rfl)
theorem l_29 {i : Int32} (hi : z_in i 7 = true) : z_ldI (z_mk L Dh S R nx sl) (some 29) i = some (S 29 i.toNatClampNeg) := m_ldI rfl (Or.inl rfl) hi
theorem s_29 {i x : Int32} (hi : z_in i 7 = true) : z_stI (z_mk L Dh S R nx sl) (some 29) i x = some (z_mk L Dh (z_ups S 29 i.toNatClampNeg x) R nx sl) := m_stI rfl hi
theorem n_29 : z_len (z_mk L Dh S R nx sl) (some 29) = some 7 := m_len rfl (by decide)
theorem l_30 {i : Int32} (hi : z_in i 7 = true) : z_ldI (z_mk L Dh S R nx sl) (some 30) i = some (S 30 i.toNatClampNeg) := m_ldI rfl (Or.inl rfl) hi
theorem s_30 {i x : Int32} (hi : z_in i 7 = true) : z_stI (z_mk L Dh S R nx sl) (some 30) i x = some (z_mk L Dh (z_ups S 30 i.toNatClampNeg x) R nx sl) := m_stI rfl hi
theorem n_30 : z_len (z_mk L Dh S R nx sl) (some 30) = some 7 := m_len rfl (by decide)
theorem l_31 {i : Int32} (hi : z_in i 7 = true) : z_ldI (z_mk L Dh S R nx sl) (some 31) i = some (S 31 i.toNatClampNeg) := m_ldI rfl (Or.inl rfl) hi
theorem s_31 {i x : Int32} (hi : z_in i 7 = true) : z_stI (z_mk L Dh S R nx sl) (some 31) i x = some (z_mk L Dh (z_ups S 31 i.toNatClampNeg x) R nx sl) := m_stI rfl hi
theorem n_31 : z_len (z_mk L Dh S R nx sl) (some 31) = some 7 := m_len rfl (by decide)
theorem l_32 {i : Int32} (hi : z_in i 7 = true) : z_ldI (z_mk L Dh S R nx sl) (some 32) i = some (S 32 i.toNatClampNeg) := m_ldI rfl (Or.inl rfl) hi
theorem s_32 {i x : Int32} (hi : z_in i 7 = true) : z_stI (z_mk L Dh S R nx sl) (some 32) i x = some (z_mk L Dh (z_ups S 32 i.toNatClampNeg x) R nx sl) := m_stI rfl hi
theorem n_32 : z_len (z_mk L Dh S R nx sl) (some 32) = some 7 := m_len rfl (by decide)
theorem l_33 {i : Int32} (hi : z_in i 7 = true) : z_ldI (z_mk L Dh S R nx sl) (some 33) i = some (S 33 i.toNatClampNeg) := m_ldI rfl (Or.inl rfl) hi
theorem s_33 {i x : Int32} (hi : z_in i 7 = true) : z_stI (z_mk L Dh S R nx sl) (some 33) i x = some (z_mk L Dh (z_ups S 33 i.toNatClampNeg x) R nx sl) := m_stI rfl hi
theorem n_33 : z_len (z_mk L Dh S R nx sl) (some 33) = some 7 := m_len rfl (by decide)
theorem l_34 {i : Int32} (hi : z_in i 7 = true) : z_ldI (z_mk L Dh S R nx sl) (some 34) i = some (S 34 i.toNatClampNeg) := m_ldI rfl (Or.inl rfl) hi
theorem s_34 {i x : Int32} (hi : z_in i 7 = true) : z_stI (z_mk L Dh S R nx sl) (some 34) i x = some (z_mk L Dh (z_ups S 34 i.toNatClampNeg x) R nx sl) := m_stI rfl hi
theorem n_34 : z_len (z_mk L Dh S R nx sl) (some 34) = some 7 := m_len rfl (by decide)
theorem l_35 {i : Int32} (hi : z_in i 7 = true) : z_ldI (z_mk L Dh S R nx sl) (some 35) i = some (S 35 i.toNatClampNeg) := m_ldI rfl (Or.inl rfl) hi
theorem s_35 {i x : Int32} (hi : z_in i 7 = true) : z_stI (z_mk L Dh S R nx sl) (some 35) i x = some (z_mk L Dh (z_ups S 35 i.toNatClampNeg x) R nx sl) := m_stI rfl hi
theorem n_35 : z_len (z_mk L Dh S R nx sl) (some 35) = some 7 := m_len rfl (by decide)
theorem l_36 {i : Int32} (hi : z_in i 7 = true) : z_ldI (z_mk L Dh S R nx sl) (some 36) i = some (S 36 i.toNatClampNeg) := m_ldI rfl (Or.inl rfl) hi
theorem s_36 {i x : Int32} (hi : z_in i 7 = true) : z_stI (z_mk L Dh S R nx sl) (some 36) i x = some (z_mk L Dh (z_ups S 36 i.toNatClampNeg x) R nx sl) := m_stI rfl hi
theorem n_36 : z_len (z_mk L Dh S R nx sl) (some 36) = some 7 := m_len rfl (by decide)
theorem l_37 {i : Int32} (hi : z_in i 12 = true) : z_ldI (z_mk L Dh S R nx sl) (some 37) i = some (S 37 i.toNatClampNeg) := m_ldI rfl (Or.inl rfl) hi
theorem s_37 {i x : Int32} (hi : z_in i 12 = true) : z_stI (z_mk L Dh S R nx sl) (some 37) i x = some (z_mk L Dh (z_ups S 37 i.toNatClampNeg x) R nx sl) := m_stI rfl hi
theorem n_37 : z_len (z_mk L Dh S R nx sl) (some 37) = some 12 := m_len rfl (by decide)
theorem o_38 : z_ob (z_mk L Dh S R nx sl) (some 38) 1 = some () := m_ob rfl
theorem g_38_0 : z_gR (z_mk L Dh S R nx sl) (some 38) 1 0 = some (some 39) := m_gC rfl rfl
theorem g_38_1 : z_gR (z_mk L Dh S R nx sl) (some 38) 1 1 = some (some 40) := m_gC rfl rfl
theorem g_38_2 : z_gR (z_mk L Dh S R nx sl) (some 38) 1 2 = some (some 41) := m_gC rfl rfl
theorem g_38_3 : z_gI (z_mk L Dh S R nx sl) (some 38) 1 3 = some (S 38 3) := m_gI rfl rfl (by decide)
theorem p_38_3 (x : Int32) : z_pI 0 (z_mk L Dh S R nx sl) (some 38) 1 3 x = some (z_mk L Dh (z_ups S 38 3 x) R nx sl) := m_pI rfl rfl (by decide) (Or.inl rfl)
theorem g_38_4 : z_gI (z_mk L Dh S R nx sl) (some 38) 1 4 = some (S 38 4) := m_gI rfl rfl (by decide)
theorem p_38_4 (x : Int32) : z_pI 0 (z_mk L Dh S R nx sl) (some 38) 1 4 x = some (z_mk L Dh (z_ups S 38 4 x) R nx sl) := m_pI rfl rfl (by decide) (Or.inl rfl)
theorem l_39 {i : Int32} (hi : z_in i 8 = true) : z_ldI (z_mk L Dh S R nx sl) (some 39) i = some (S 39 i.toNatClampNeg) := m_ldI rfl (Or.inl rfl) hi
theorem s_39 {i x : Int32} (hi : z_in i 8 = true) : z_stI (z_mk L Dh S R nx sl) (some 39) i x = some (z_mk L Dh (z_ups S 39 i.toNatClampNeg x) R nx sl) := m_stI rfl hi
theorem n_39 : z_len (z_mk L Dh S R nx sl) (some 39) = some 8 := m_len rfl (by decide)
theorem l_40 {i : Int32} (hi : z_in i 4 = true) : z_ldI (z_mk L Dh S R nx sl) (some 40) i = some (S 40 i.toNatClampNeg) := m_ldI rfl (Or.inl rfl) hi
theorem s_40 {i x : Int32} (hi : z_in i 4 = true) : z_stI (z_mk L Dh S R nx sl) (some 40) i x = some (z_mk L Dh (z_ups S 40 i.toNatClampNeg x) R nx sl) := m_stI rfl hi
theorem n_40 : z_len (z_mk L Dh S R nx sl) (some 40) = some 4 := m_len rfl (by decide)
theorem l_41 {i : Int32} (hi : z_in i 4 = true) : z_ldI (z_mk L Dh S R nx sl) (some 41) i = some (S 41 i.toNatClampNeg) := m_ldI rfl (Or.inl rfl) hi
theorem s_41 {i x : Int32} (hi : z_in i 4 = true) : z_stI (z_mk L Dh S R nx sl) (some 41) i x = some (z_mk L Dh (z_ups S 41 i.toNatClampNeg x) R nx sl) := m_stI rfl hi
theorem n_41 : z_len (z_mk L Dh S R nx sl) (some 41) = some 4 := m_len rfl (by decide)
theorem o_42 : z_ob (z_mk L Dh S R nx sl) (some 42) 8 = some () := m_ob rfl
theorem g_42_0 : z_gI (z_mk L Dh S R nx sl) (some 42) 8 0 = some (S 42 0) := m_gI rfl rfl (by decide)
theorem p_42_0 (x : Int32) : z_pI 0 (z_mk L Dh S R nx sl) (some 42) 8 0 x = some (z_mk L Dh (z_ups S 42 0 x) R nx sl) := m_pI rfl rfl (by decide) (Or.inl rfl)
theorem g_42_1 : z_gR (z_mk L Dh S R nx sl) (some 42) 8 1 = some (some 43) := m_gC rfl rfl
theorem g_42_2 : z_gR (z_mk L Dh S R nx sl) (some 42) 8 2 = some (some 44) := m_gC rfl rfl
theorem g_42_3 : z_gR (z_mk L Dh S R nx sl) (some 42) 8 3 = some (some 45) := m_gC rfl rfl
theorem g_42_4 : z_gR (z_mk L Dh S R nx sl) (some 42) 8 4 = some (some 46) := m_gC rfl rfl
theorem g_42_5 : z_gR (z_mk L Dh S R nx sl) (some 42) 8 5 = some (some 47) := m_gC rfl rfl
theorem g_42_6 : z_gI (z_mk L Dh S R nx sl) (some 42) 8 6 = some (S 42 6) := m_gI rfl rfl (by decide)
theorem p_42_6 (x : Int32) : z_pI 0 (z_mk L Dh S R nx sl) (some 42) 8 6 x = some (z_mk L Dh (z_ups S 42 6 x) R nx sl) := m_pI rfl rfl (by decide) (Or.inl rfl)
theorem g_42_7 : z_gR (z_mk L Dh S R nx sl) (some 42) 8 7 = some (some 48) := m_gC rfl rfl
theorem g_42_8 : z_gR (z_mk L Dh S R nx sl) (some 42) 8 8 = some (some 49) := m_gC rfl rfl
theorem g_42_9 : z_gR (z_mk L Dh S R nx sl) (some 42) 8 9 = some (some 50) := m_gC rfl rfl
theorem g_42_10 : z_gR (z_mk L Dh S R nx sl) (some 42) 8 10 = some (some 51) := m_gC rfl rfl
theorem g_42_11 : z_gI (z_mk L Dh S R nx sl) (some 42) 8 11 = some (S 42 11) := m_gI rfl rfl (by decide)
theorem p_42_11 (x : Int32) : z_pI 0 (z_mk L Dh S R nx sl) (some 42) 8 11 x = some (z_mk L Dh (z_ups S 42 11 x) R nx sl) := m_pI rfl rfl (by decide) (Or.inl rfl)
theorem l_43 {i : Int32} (hi : z_in i 60 = true) : z_ldI (z_mk L Dh S R nx sl) (some 43) i = some (S 43 i.toNatClampNeg) := m_ldI rfl (Or.inl rfl) hi
theorem s_43 {i x : Int32} (hi : z_in i 60 = true) : z_stI (z_mk L Dh S R nx sl) (some 43) i x = some (z_mk L Dh (z_ups S 43 i.toNatClampNeg x) R nx sl) := m_stI rfl hi
theorem n_43 : z_len (z_mk L Dh S R nx sl) (some 43) = some 60 := m_len rfl (by decide)
theorem l_44 {i : Int32} (hi : z_in i 60 = true) : z_ldI (z_mk L Dh S R nx sl) (some 44) i = some (S 44 i.toNatClampNeg) := m_ldI rfl (Or.inl rfl) hi
theorem s_44 {i x : Int32} (hi : z_in i 60 = true) : z_stI (z_mk L Dh S R nx sl) (some 44) i x = some (z_mk L Dh (z_ups S 44 i.toNatClampNeg x) R nx sl) := m_stI rfl hi
theorem n_44 : z_len (z_mk L Dh S R nx sl) (some 44) = some 60 := m_len rfl (by decide)
theorem l_45 {i : Int32} (hi : z_in i 60 = true) : z_ldI (z_mk L Dh S R nx sl) (some 45) i = some (S 45 i.toNatClampNeg) := m_ldI rfl (Or.inl rfl) hi
theorem s_45 {i x : Int32} (hi : z_in i 60 = true) : z_stI (z_mk L Dh S R nx sl) (some 45) i x = some (z_mk L Dh (z_ups S 45 i.toNatClampNeg x) R nx sl) := m_stI rfl hi
theorem n_45 : z_len (z_mk L Dh S R nx sl) (some 45) = some 60 := m_len rfl (by decide)
theorem l_46 {i : Int32} (hi : z_in i 60 = true) : z_ldI (z_mk L Dh S R nx sl) (some 46) i = some (S 46 i.toNatClampNeg) := m_ldI rfl (Or.inl rfl) hi
theorem s_46 {i x : Int32} (hi : z_in i 60 = true) : z_stI (z_mk L Dh S R nx sl) (some 46) i x = some (z_mk L Dh (z_ups S 46 i.toNatClampNeg x) R nx sl) := m_stI rfl hi
theorem n_46 : z_len (z_mk L Dh S R nx sl) (some 46) = some 60 := m_len rfl (by decide)
theorem l_47 {i : Int32} (hi : z_in i 60 = true) : z_ldI (z_mk L Dh S R nx sl) (some 47) i = some (S 47 i.toNatClampNeg) := m_ldI rfl (Or.inl rfl) hi
theorem s_47 {i x : Int32} (hi : z_in i 60 = true) : z_stI (z_mk L Dh S R nx sl) (some 47) i x = some (z_mk L Dh (z_ups S 47 i.toNatClampNeg x) R nx sl) := m_stI rfl hi
theorem n_47 : z_len (z_mk L Dh S R nx sl) (some 47) = some 60 := m_len rfl (by decide)
theorem l_48 {i : Int32} (hi : z_in i 20 = true) : z_ldI (z_mk L Dh S R nx sl) (some 48) i = some (S 48 i.toNatClampNeg) := m_ldI rfl (Or.inl rfl) hi
theorem s_48 {i x : Int32} (hi : z_in i 20 = true) : z_stI (z_mk L Dh S R nx sl) (some 48) i x = some (z_mk L Dh (z_ups S 48 i.toNatClampNeg x) R nx sl) := m_stI rfl hi
theorem n_48 : z_len (z_mk L Dh S R nx sl) (some 48) = some 20 := m_len rfl (by decide)
theorem l_49 {i : Int32} (hi : z_in i 20 = true) : z_ldI (z_mk L Dh S R nx sl) (some 49) i = some (S 49 i.toNatClampNeg) := m_ldI rfl (Or.inl rfl) hi
theorem s_49 {i x : Int32} (hi : z_in i 20 = true) : z_stI (z_mk L Dh S R nx sl) (some 49) i x = some (z_mk L Dh (z_ups S 49 i.toNatClampNeg x) R nx sl) := m_stI rfl hi
theorem n_49 : z_len (z_mk L Dh S R nx sl) (some 49) = some 20 := m_len rfl (by decide)
theorem l_50 {i : Int32} (hi : z_in i 20 = true) : z_ldI (z_mk L Dh S R nx sl) (some 50) i = some (S 50 i.toNatClampNeg) := m_ldI rfl (Or.inl rfl) hi
theorem s_50 {i x : Int32} (hi : z_in i 20 = true) : z_stI (z_mk L Dh S R nx sl) (some 50) i x = some (z_mk L Dh (z_ups S 50 i.toNatClampNeg x) R nx sl) := m_stI rfl hi
theorem n_50 : z_len (z_mk L Dh S R nx sl) (some 50) = some 20 := m_len rfl (by decide)
theorem l_51 {i : Int32} (hi : z_in i 20 = true) : z_ldI (z_mk L Dh S R nx sl) (some 51) i = some (S 51 i.toNatClampNeg) := m_ldI rfl (Or.inl rfl) hi
theorem s_51 {i x : Int32} (hi : z_in i 20 = true) : z_stI (z_mk L Dh S R nx sl) (some 51) i x = some (z_mk L Dh (z_ups S 51 i.toNatClampNeg x) R nx sl) := m_stI rfl hi
theorem n_51 : z_len (z_mk L Dh S R nx sl) (some 51) = some 20 := m_len rfl (by decide)
theorem o_52 : z_ob (z_mk L Dh S R nx sl) (some 52) 11 = some () := m_ob rfl
theorem g_52_0 : z_gR (z_mk L Dh S R nx sl) (some 52) 11 0 = some (some 53) := m_gC rfl rfl
theorem g_52_1 : z_gR (z_mk L Dh S R nx sl) (some 52) 11 1 = some (some 54) := m_gC rfl rfl
theorem g_52_2 : z_gI (z_mk L Dh S R nx sl) (some 52) 11 2 = some (S 52 2) := m_gI rfl rfl (by decide)
theorem p_52_2 (x : Int32) : z_pI 0 (z_mk L Dh S R nx sl) (some 52) 11 2 x = some (z_mk L Dh (z_ups S 52 2 x) R nx sl) := m_pI rfl rfl (by decide) (Or.inl rfl)
theorem g_52_3 : z_gR (z_mk L Dh S R nx sl) (some 52) 11 3 = some (some 55) := m_gC rfl rfl
theorem g_52_4 : z_gR (z_mk L Dh S R nx sl) (some 52) 11 4 = some (some 56) := m_gC rfl rfl
theorem g_52_5 : z_gR (z_mk L Dh S R nx sl) (some 52) 11 5 = some (some 57) := m_gC rfl rfl
theorem g_52_6 : z_gR (z_mk L Dh S R nx sl) (some 52) 11 6 = some (some 58) := m_gC rfl rfl
theorem g_52_7 : z_gR (z_mk L Dh S R nx sl) (some 52) 11 7 = some (some 59) := m_gC rfl rfl
theorem g_52_8 : z_gR (z_mk L Dh S R nx sl) (some 52) 11 8 = some (some 60) := m_gC rfl rfl
theorem g_52_9 : z_gR (z_mk L Dh S R nx sl) (some 52) 11 9 = some (some 61) := m_gC rfl rfl
theorem g_52_10 : z_gR (z_mk L Dh S R nx sl) (some 52) 11 10 = some (some 62) := m_gC rfl rfl
theorem g_52_11 : z_gI (z_mk L Dh S R nx sl) (some 52) 11 11 = some (S 52 11) := m_gI rfl rfl (by decide)
theorem p_52_11 (x : Int32) : z_pI 0 (z_mk L Dh S R nx sl) (some 52) 11 11 x = some (z_mk L Dh (z_ups S 52 11 x) R nx sl) := m_pI rfl rfl (by decide) (Or.inl rfl)
theorem g_52_12 : z_gI (z_mk L Dh S R nx sl) (some 52) 11 12 = some (S 52 12) := m_gI rfl rfl (by decide)
theorem p_52_12 (x : Int32) : z_pI 0 (z_mk L Dh S R nx sl) (some 52) 11 12 x = some (z_mk L Dh (z_ups S 52 12 x) R nx sl) := m_pI rfl rfl (by decide) (Or.inl rfl)
theorem g_52_13 : z_gR (z_mk L Dh S R nx sl) (some 52) 11 13 = some (some 63) := m_gC rfl rfl
theorem g_52_14 : z_gR (z_mk L Dh S R nx sl) (some 52) 11 14 = some (some 64) := m_gC rfl rfl
theorem g_52_15 : z_gI (z_mk L Dh S R nx sl) (some 52) 11 15 = some (S 52 15) := m_gI rfl rfl (by decide)
theorem p_52_15 (x : Int32) : z_pI 0 (z_mk L Dh S R nx sl) (some 52) 11 15 x = some (z_mk L Dh (z_ups S 52 15 x) R nx sl) := m_pI rfl rfl (by decide) (Or.inl rfl)
theorem g_52_16 : z_gI (z_mk L Dh S R nx sl) (some 52) 11 16 = some (S 52 16) := m_gI rfl rfl (by decide)
theorem p_52_16 (x : Int32) : z_pI 0 (z_mk L Dh S R nx sl) (some 52) 11 16 x = some (z_mk L Dh (z_ups S 52 16 x) R nx sl) := m_pI rfl rfl (by decide) (Or.inl rfl)
theorem g_52_17 : z_gR (z_mk L Dh S R nx sl) (some 52) 11 17 = some (some 65) := m_gC rfl rfl
theorem g_52_18 : z_gI (z_mk L Dh S R nx sl) (some 52) 11 18 = some (S 52 18) := m_gI rfl rfl (by decide)
theorem p_52_18 (x : Int32) : z_pI 0 (z_mk L Dh S R nx sl) (some 52) 11 18 x = some (z_mk L Dh (z_ups S 52 18 x) R nx sl) := m_pI rfl rfl (by decide) (Or.inl rfl)
theorem g_52_19 : z_gR (z_mk L Dh S R nx sl) (some 52) 11 19 = some (some 66) := m_gC rfl rfl
theorem g_52_20 : z_gR (z_mk L Dh S R nx sl) (some 52) 11 20 = some (some 67) := m_gC rfl rfl
theorem g_52_21 : z_gR (z_mk L Dh S R nx sl) (some 52) 11 21 = some (some 68) := m_gC rfl rfl
theorem g_52_22 : z_gR (z_mk L Dh S R nx sl) (some 52) 11 22 = some (some 69) := m_gC rfl rfl
theorem g_52_23 : z_gR (z_mk L Dh S R nx sl) (some 52) 11 23 = some (some 70) := m_gC rfl rfl
theorem g_52_24 : z_gR (z_mk L Dh S R nx sl) (some 52) 11 24 = some (some 71) := m_gC rfl rfl
theorem g_52_25 : z_gI (z_mk L Dh S R nx sl) (some 52) 11 25 = some (S 52 25) := m_gI rfl rfl (by decide)
theorem p_52_25 (x : Int32) : z_pI 0 (z_mk L Dh S R nx sl) (some 52) 11 25 x = some (z_mk L Dh (z_ups S 52 25 x) R nx sl) := m_pI rfl rfl (by decide) (Or.inl rfl)
theorem g_52_26 : z_gI (z_mk L Dh S R nx sl) (some 52) 11 26 = some (S 52 26) := m_gI rfl rfl (by decide)
theorem p_52_26 (x : Int32) : z_pI 0 (z_mk L Dh S R nx sl) (some 52) 11 26 x = some (z_mk L Dh (z_ups S 52 26 x) R nx sl) := m_pI rfl rfl (by decide) (Or.inl rfl)
theorem g_52_27 : z_gR (z_mk L Dh S R nx sl) (some 52) 11 27 = some (some 72) := m_gC rfl rfl
theorem g_52_28 : z_gI (z_mk L Dh S R nx sl) (some 52) 11 28 = some (S 52 28) := m_gI rfl rfl (by decide)
theorem p_52_28 (x : Int32) : z_pI 0 (z_mk L Dh S R nx sl) (some 52) 11 28 x = some (z_mk L Dh (z_ups S 52 28 x) R nx sl) := m_pI rfl rfl (by decide) (Or.inl rfl)
theorem g_52_29 : z_gR (z_mk L Dh S R nx sl) (some 52) 11 29 = some (some 73) := m_gC rfl rfl
theorem g_52_30 : z_gR (z_mk L Dh S R nx sl) (some 52) 11 30 = some (some 74) := m_gC rfl rfl
theorem g_52_31 : z_gR (z_mk L Dh S R nx sl) (some 52) 11 31 = some (some 75) := m_gC rfl rfl
theorem g_52_32 : z_gI (z_mk L Dh S R nx sl) (some 52) 11 32 = some (S 52 32) := m_gI rfl rfl (by decide)
theorem p_52_32 (x : Int32) : z_pI 0 (z_mk L Dh S R nx sl) (some 52) 11 32 x = some (z_mk L Dh (z_ups S 52 32 x) R nx sl) := m_pI rfl rfl (by decide) (Or.inl rfl)
theorem g_52_33 : z_gI (z_mk L Dh S R nx sl) (some 52) 11 33 = some (S 52 33) := m_gI rfl rfl (by decide)
theorem p_52_33 (x : Int32) : z_pI 0 (z_mk L Dh S R nx sl) (some 52) 11 33 x = some (z_mk L Dh (z_ups S 52 33 x) R nx sl) := m_pI rfl rfl (by decide) (Or.inl rfl)
theorem g_52_34 : z_gR (z_mk L Dh S R nx sl) (some 52) 11 34 = some (some 76) := m_gC rfl rfl
theorem g_52_35 : z_gI (z_mk L Dh S R nx sl) (some 52) 11 35 = some (S 52 35) := m_gI rfl rfl (by decide)
theorem p_52_35 (x : Int32) : z_pI 0 (z_mk L Dh S R nx sl) (some 52) 11 35 x = some (z_mk L Dh (z_ups S 52 35 x) R nx sl) := m_pI rfl rfl (by decide) (Or.inl rfl)
theorem g_52_36 : z_gR (z_mk L Dh S R nx sl) (some 52) 11 36 = some (some 77) := m_gC rfl rfl
theorem g_52_37 : z_gI (z_mk L Dh S R nx sl) (some 52) 11 37 = some (S 52 37) := m_gI rfl rfl (by decide)
theorem p_52_37 (x : Int32) : z_pI 0 (z_mk L Dh S R nx sl) (some 52) 11 37 x = some (z_mk L Dh (z_ups S 52 37 x) R nx sl) := m_pI rfl rfl (by decide) (Or.inl rfl)
theorem g_52_38 : z_gI (z_mk L Dh S R nx sl) (some 52) 11 38 = some (S 52 38) := m_gI rfl rfl (by decide)
theorem p_52_38 (x : Int32) : z_pI 0 (z_mk L Dh S R nx sl) (some 52) 11 38 x = some (z_mk L Dh (z_ups S 52 38 x) R nx sl) := m_pI rfl rfl (by decide) (Or.inl rfl)
theorem g_52_39 : z_gI (z_mk L Dh S R nx sl) (some 52) 11 39 = some (S 52 39) := m_gI rfl rfl (by decide)
theorem p_52_39 (x : Int32) : z_pI 0 (z_mk L Dh S R nx sl) (some 52) 11 39 x = some (z_mk L Dh (z_ups S 52 39 x) R nx sl) := m_pI rfl rfl (by decide) (Or.inl rfl)
theorem g_52_40 : z_gR (z_mk L Dh S R nx sl) (some 52) 11 40 = some (some 78) := m_gC rfl rfl
theorem g_52_41 : z_gI (z_mk L Dh S R nx sl) (some 52) 11 41 = some (S 52 41) := m_gI rfl rfl (by decide)
theorem p_52_41 (x : Int32) : z_pI 0 (z_mk L Dh S R nx sl) (some 52) 11 41 x = some (z_mk L Dh (z_ups S 52 41 x) R nx sl) := m_pI rfl rfl (by decide) (Or.inl rfl)
theorem g_52_42 : z_gR (z_mk L Dh S R nx sl) (some 52) 11 42 = some (some 79) := m_gC rfl rfl
theorem g_52_43 : z_gR (z_mk L Dh S R nx sl) (some 52) 11 43 = some (some 80) := m_gC rfl rfl
theorem g_52_44 : z_gR (z_mk L Dh S R nx sl) (some 52) 11 44 = some (some 81) := m_gC rfl rfl
theorem g_52_45 : z_gR (z_mk L Dh S R nx sl) (some 52) 11 45 = some (some 82) := m_gC rfl rfl
theorem g_52_46 : z_gI (z_mk L Dh S R nx sl) (some 52) 11 46 = some (S 52 46) := m_gI rfl rfl (by decide)
theorem p_52_46 (x : Int32) : z_pI 0 (z_mk L Dh S R nx sl) (some 52) 11 46 x = some (z_mk L Dh (z_ups S 52 46 x) R nx sl) := m_pI rfl rfl (by decide) (Or.inl rfl)
theorem g_52_47 : z_gR (z_mk L Dh S R nx sl) (some 52) 11 47 = some (some 83) := m_gC rfl rfl
theorem g_52_48 : z_gR (z_mk L Dh S R nx sl) (some 52) 11 48 = some (some 84) := m_gC rfl rfl
theorem g_52_49 : z_gI (z_mk L Dh S R nx sl) (some 52) 11 49 = some (S 52 49) := m_gI rfl rfl (by decide)
theorem p_52_49 (x : Int32) : z_pI 0 (z_mk L Dh S R nx sl) (some 52) 11 49 x = some (z_mk L Dh (z_ups S 52 49 x) R nx sl) := m_pI rfl rfl (by decide) (Or.inl rfl)
theorem g_52_50 : z_gI (z_mk L Dh S R nx sl) (some 52) 11 50 = some (S 52 50) := m_gI rfl rfl (by decide)
theorem p_52_50 (x : Int32) : z_pI 0 (z_mk L Dh S R nx sl) (some 52) 11 50 x = some (z_mk L Dh (z_ups S 52 50 x) R nx sl) := m_pI rfl rfl (by decide) (Or.inl rfl)
theorem g_52_51 : z_gR (z_mk L Dh S R nx sl) (some 52) 11 51 = some (some 85) := m_gC rfl rfl
theorem g_52_52 : z_gR (z_mk L Dh S R nx sl) (some 52) 11 52 = some (some 86) := m_gC rfl rfl
theorem l_53 {i : Int32} (hi : z_in i 400 = true) : z_ldB (z_mk L Dh S R nx sl) (some 53) i = some (S 53 i.toNatClampNeg) := m_ldB rfl (by decide) hi
theorem s_53 {i x : Int32} (hi : z_in i 400 = true) (hx : x = 0 ∨ x = 1) : z_stB (z_mk L Dh S R nx sl) (some 53) i x = some (z_mk L Dh (z_ups S 53 i.toNatClampNeg x) R nx sl) := m_stZ rfl hi hx
theorem n_53 : z_len (z_mk L Dh S R nx sl) (some 53) = some 400 := m_len rfl (by decide)
theorem l_54 {i : Int32} (hi : z_in i 400 = true) : z_ldB (z_mk L Dh S R nx sl) (some 54) i = some (S 54 i.toNatClampNeg) := m_ldB rfl (by decide) hi
theorem s_54 {i x : Int32} (hi : z_in i 400 = true) (hx : x = 0 ∨ x = 1) : z_stB (z_mk L Dh S R nx sl) (some 54) i x = some (z_mk L Dh (z_ups S 54 i.toNatClampNeg x) R nx sl) := m_stZ rfl hi hx
theorem n_54 : z_len (z_mk L Dh S R nx sl) (some 54) = some 400 := m_len rfl (by decide)
theorem l_55 {i : Int32} (hi : z_in i 12 = true) : z_ldI (z_mk L Dh S R nx sl) (some 55) i = some (S 55 i.toNatClampNeg) := m_ldI rfl (Or.inl rfl) hi
theorem s_55 {i x : Int32} (hi : z_in i 12 = true) : z_stI (z_mk L Dh S R nx sl) (some 55) i x = some (z_mk L Dh (z_ups S 55 i.toNatClampNeg x) R nx sl) := m_stI rfl hi
theorem n_55 : z_len (z_mk L Dh S R nx sl) (some 55) = some 12 := m_len rfl (by decide)
theorem l_56 {i : Int32} (hi : z_in i 12 = true) : z_ldI (z_mk L Dh S R nx sl) (some 56) i = some (S 56 i.toNatClampNeg) := m_ldI rfl (Or.inl rfl) hi
theorem s_56 {i x : Int32} (hi : z_in i 12 = true) : z_stI (z_mk L Dh S R nx sl) (some 56) i x = some (z_mk L Dh (z_ups S 56 i.toNatClampNeg x) R nx sl) := m_stI rfl hi
theorem n_56 : z_len (z_mk L Dh S R nx sl) (some 56) = some 12 := m_len rfl (by decide)
theorem l_57 {i : Int32} (hi : z_in i 12 = true) : z_ldI (z_mk L Dh S R nx sl) (some 57) i = some (S 57 i.toNatClampNeg) := m_ldI rfl (Or.inl rfl) hi
theorem s_57 {i x : Int32} (hi : z_in i 12 = true) : z_stI (z_mk L Dh S R nx sl) (some 57) i x = some (z_mk L Dh (z_ups S 57 i.toNatClampNeg x) R nx sl) := m_stI rfl hi
theorem n_57 : z_len (z_mk L Dh S R nx sl) (some 57) = some 12 := m_len rfl (by decide)
theorem l_58 {i : Int32} (hi : z_in i 12 = true) : z_ldI (z_mk L Dh S R nx sl) (some 58) i = some (S 58 i.toNatClampNeg) := m_ldI rfl (Or.inl rfl) hi
theorem s_58 {i x : Int32} (hi : z_in i 12 = true) : z_stI (z_mk L Dh S R nx sl) (some 58) i x = some (z_mk L Dh (z_ups S 58 i.toNatClampNeg x) R nx sl) := m_stI rfl hi
theorem n_58 : z_len (z_mk L Dh S R nx sl) (some 58) = some 12 := m_len rfl (by decide)
theorem l_59 {i : Int32} (hi : z_in i 12 = true) : z_ldI (z_mk L Dh S R nx sl) (some 59) i = some (S 59 i.toNatClampNeg) := m_ldI rfl (Or.inl rfl) hi
theorem s_59 {i x : Int32} (hi : z_in i 12 = true) : z_stI (z_mk L Dh S R nx sl) (some 59) i x = some (z_mk L Dh (z_ups S 59 i.toNatClampNeg x) R nx sl) := m_stI rfl hi
theorem n_59 : z_len (z_mk L Dh S R nx sl) (some 59) = some 12 := m_len rfl (by decide)
theorem l_60 {i : Int32} (hi : z_in i 12 = true) : z_ldI (z_mk L Dh S R nx sl) (some 60) i = some (S 60 i.toNatClampNeg) := m_ldI rfl (Or.inl rfl) hi
theorem s_60 {i x : Int32} (hi : z_in i 12 = true) : z_stI (z_mk L Dh S R nx sl) (some 60) i x = some (z_mk L Dh (z_ups S 60 i.toNatClampNeg x) R nx sl) := m_stI rfl hi
theorem n_60 : z_len (z_mk L Dh S R nx sl) (some 60) = some 12 := m_len rfl (by decide)
theorem l_61 {i : Int32} (hi : z_in i 12 = true) : z_ldI (z_mk L Dh S R nx sl) (some 61) i = some (S 61 i.toNatClampNeg) := m_ldI rfl (Or.inl rfl) hi
theorem s_61 {i x : Int32} (hi : z_in i 12 = true) : z_stI (z_mk L Dh S R nx sl) (some 61) i x = some (z_mk L Dh (z_ups S 61 i.toNatClampNeg x) R nx sl) := m_stI rfl hi
theorem n_61 : z_len (z_mk L Dh S R nx sl) (some 61) = some 12 := m_len rfl (by decide)
theorem l_62 {i : Int32} (hi : z_in i 480 = true) : z_ldI (z_mk L Dh S R nx sl) (some 62) i = some (S 62 i.toNatClampNeg) := m_ldI rfl (Or.inl rfl) hi
theorem s_62 {i x : Int32} (hi : z_in i 480 = true) : z_stI (z_mk L Dh S R nx sl) (some 62) i x = some (z_mk L Dh (z_ups S 62 i.toNatClampNeg x) R nx sl) := m_stI rfl hi
theorem n_62 : z_len (z_mk L Dh S R nx sl) (some 62) = some 480 := m_len rfl (by decide)
theorem l_63 {i : Int32} (hi : z_in i 48 = true) : z_ldI (z_mk L Dh S R nx sl) (some 63) i = some (S 63 i.toNatClampNeg) := m_ldI rfl (Or.inl rfl) hi
theorem s_63 {i x : Int32} (hi : z_in i 48 = true) : z_stI (z_mk L Dh S R nx sl) (some 63) i x = some (z_mk L Dh (z_ups S 63 i.toNatClampNeg x) R nx sl) := m_stI rfl hi
theorem n_63 : z_len (z_mk L Dh S R nx sl) (some 63) = some 48 := m_len rfl (by decide)
theorem l_64 {i : Int32} (hi : z_in i 3 = true) : z_ldI (z_mk L Dh S R nx sl) (some 64) i = some (S 64 i.toNatClampNeg) := m_ldI rfl (Or.inl rfl) hi
theorem s_64 {i x : Int32} (hi : z_in i 3 = true) : z_stI (z_mk L Dh S R nx sl) (some 64) i x = some (z_mk L Dh (z_ups S 64 i.toNatClampNeg x) R nx sl) := m_stI rfl hi
theorem n_64 : z_len (z_mk L Dh S R nx sl) (some 64) = some 3 := m_len rfl (by decide)
theorem l_65 {i : Int32} (hi : z_in i 60 = true) : z_ldB (z_mk L Dh S R nx sl) (some 65) i = some (S 65 i.toNatClampNeg) := m_ldB rfl (by decide) hi
theorem s_65 {i x : Int32} (hi : z_in i 60 = true) : z_stB (z_mk L Dh S R nx sl) (some 65) i x = some (z_mk L Dh (z_ups S 65 i.toNatClampNeg x.toInt8.toInt32) R nx sl) := m_stB rfl hi
theorem n_65 : z_len (z_mk L Dh S R nx sl) (some 65) = some 60 := m_len rfl (by decide)
theorem l_66 {i : Int32} (hi : z_in i 366 = true) : z_ldB (z_mk L Dh S R nx sl) (some 66) i = some (S 66 i.toNatClampNeg) := m_ldB rfl (by decide) hi
theorem s_66 {i x : Int32} (hi : z_in i 366 = true) : z_stB (z_mk L Dh S R nx sl) (some 66) i x = some (z_mk L Dh (z_ups S 66 i.toNatClampNeg x.toInt8.toInt32) R nx sl) := m_stB rfl hi
theorem n_66 : z_len (z_mk L Dh S R nx sl) (some 66) = some 366 := m_len rfl (by decide)
theorem l_67 {i : Int32} (hi : z_in i 6 = true) : z_ldI (z_mk L Dh S R nx sl) (some 67) i = some (S 67 i.toNatClampNeg) := m_ldI rfl (Or.inl rfl) hi
theorem s_67 {i x : Int32} (hi : z_in i 6 = true) : z_stI (z_mk L Dh S R nx sl) (some 67) i x = some (z_mk L Dh (z_ups S 67 i.toNatClampNeg x) R nx sl) := m_stI rfl hi
theorem n_67 : z_len (z_mk L Dh S R nx sl) (some 67) = some 6 := m_len rfl (by decide)
theorem l_68 {i : Int32} (hi : z_in i 7 = true) : z_ldI (z_mk L Dh S R nx sl) (some 68) i = some (S 68 i.toNatClampNeg) := m_ldI rfl (Or.inl rfl) hi
theorem s_68 {i x : Int32} (hi : z_in i 7 = true) : z_stI (z_mk L Dh S R nx sl) (some 68) i x = some (z_mk L Dh (z_ups S 68 i.toNatClampNeg x) R nx sl) := m_stI rfl hi
theorem n_68 : z_len (z_mk L Dh S R nx sl) (some 68) = some 7 := m_len rfl (by decide)
theorem l_69 {i : Int32} (hi : z_in i 7 = true) : z_ldB (z_mk L Dh S R nx sl) (some 69) i = some (S 69 i.toNatClampNeg) := m_ldB rfl (by decide) hi
theorem s_69 {i x : Int32} (hi : z_in i 7 = true) (hx : x = 0 ∨ x = 1) : z_stB (z_mk L Dh S R nx sl) (some 69) i x = some (z_mk L Dh (z_ups S 69 i.toNatClampNeg x) R nx sl) := m_stZ rfl hi hx
theorem n_69 : z_len (z_mk L Dh S R nx sl) (some 69) = some 7 := m_len rfl (by decide)
theorem l_70 {i : Int32} (hi : z_in i 7 = true) : z_ldB (z_mk L Dh S R nx sl) (some 70) i = some (S 70 i.toNatClampNeg) := m_ldB rfl (by decide) hi
theorem s_70 {i x : Int32} (hi : z_in i 7 = true) (hx : x = 0 ∨ x = 1) : z_stB (z_mk L Dh S R nx sl) (some 70) i x = some (z_mk L Dh (z_ups S 70 i.toNatClampNeg x) R nx sl) := m_stZ rfl hi hx
theorem n_70 : z_len (z_mk L Dh S R nx sl) (some 70) = some 7 := m_len rfl (by decide)
theorem l_71 {i : Int32} (hi : z_in i 7 = true) : z_ldB (z_mk L Dh S R nx sl) (some 71) i = some (S 71 i.toNatClampNeg) := m_ldB rfl (by decide) hi
theorem s_71 {i x : Int32} (hi : z_in i 7 = true) (hx : x = 0 ∨ x = 1) : z_stB (z_mk L Dh S R nx sl) (some 71) i x = some (z_mk L Dh (z_ups S 71 i.toNatClampNeg x) R nx sl) := m_stZ rfl hi hx
theorem n_71 : z_len (z_mk L Dh S R nx sl) (some 71) = some 7 := m_len rfl (by decide)
theorem l_72 {i : Int32} (hi : z_in i 32 = true) : z_ldI (z_mk L Dh S R nx sl) (some 72) i = some (S 72 i.toNatClampNeg) := m_ldI rfl (Or.inl rfl) hi
theorem s_72 {i x : Int32} (hi : z_in i 32 = true) : z_stI (z_mk L Dh S R nx sl) (some 72) i x = some (z_mk L Dh (z_ups S 72 i.toNatClampNeg x) R nx sl) := m_stI rfl hi
theorem n_72 : z_len (z_mk L Dh S R nx sl) (some 72) = some 32 := m_len rfl (by decide)
theorem l_73 {i : Int32} (hi : z_in i 42 = true) : z_ldI (z_mk L Dh S R nx sl) (some 73) i = some (S 73 i.toNatClampNeg) := m_ldI rfl (Or.inl rfl) hi
theorem s_73 {i x : Int32} (hi : z_in i 42 = true) : z_stI (z_mk L Dh S R nx sl) (some 73) i x = some (z_mk L Dh (z_ups S 73 i.toNatClampNeg x) R nx sl) := m_stI rfl hi
theorem n_73 : z_len (z_mk L Dh S R nx sl) (some 73) = some 42 := m_len rfl (by decide)
theorem l_74 {i : Int32} (hi : z_in i 7 = true) : z_ldI (z_mk L Dh S R nx sl) (some 74) i = some (S 74 i.toNatClampNeg) := m_ldI rfl (Or.inl rfl) hi
theorem s_74 {i x : Int32} (hi : z_in i 7 = true) : z_stI (z_mk L Dh S R nx sl) (some 74) i x = some (z_mk L Dh (z_ups S 74 i.toNatClampNeg x) R nx sl) := m_stI rfl hi
theorem n_74 : z_len (z_mk L Dh S R nx sl) (some 74) = some 7 := m_len rfl (by decide)
theorem l_75 {i : Int32} (hi : z_in i 7 = true) : z_ldI (z_mk L Dh S R nx sl) (some 75) i = some (S 75 i.toNatClampNeg) := m_ldI rfl (Or.inl rfl) hi
theorem s_75 {i x : Int32} (hi : z_in i 7 = true) : z_stI (z_mk L Dh S R nx sl) (some 75) i x = some (z_mk L Dh (z_ups S 75 i.toNatClampNeg x) R nx sl) := m_stI rfl hi
theorem n_75 : z_len (z_mk L Dh S R nx sl) (some 75) = some 7 := m_len rfl (by decide)
theorem l_76 {i : Int32} (hi : z_in i 12 = true) : z_ldI (z_mk L Dh S R nx sl) (some 76) i = some (S 76 i.toNatClampNeg) := m_ldI rfl (Or.inl rfl) hi
theorem s_76 {i x : Int32} (hi : z_in i 12 = true) : z_stI (z_mk L Dh S R nx sl) (some 76) i x = some (z_mk L Dh (z_ups S 76 i.toNatClampNeg x) R nx sl) := m_stI rfl hi
theorem n_76 : z_len (z_mk L Dh S R nx sl) (some 76) = some 12 := m_len rfl (by decide)
theorem l_77 {i : Int32} (hi : z_in i 8 = true) : z_ldI (z_mk L Dh S R nx sl) (some 77) i = some (S 77 i.toNatClampNeg) := m_ldI rfl (Or.inl rfl) hi
theorem s_77 {i x : Int32} (hi : z_in i 8 = true) : z_stI (z_mk L Dh S R nx sl) (some 77) i x = some (z_mk L Dh (z_ups S 77 i.toNatClampNeg x) R nx sl) := m_stI rfl hi
theorem n_77 : z_len (z_mk L Dh S R nx sl) (some 77) = some 8 := m_len rfl (by decide)
theorem l_78 {i : Int32} (hi : z_in i 300 = true) : z_ldI (z_mk L Dh S R nx sl) (some 78) i = some (S 78 i.toNatClampNeg) := m_ldI rfl (Or.inl rfl) hi
theorem s_78 {i x : Int32} (hi : z_in i 300 = true) : z_stI (z_mk L Dh S R nx sl) (some 78) i x = some (z_mk L Dh (z_ups S 78 i.toNatClampNeg x) R nx sl) := m_stI rfl hi
theorem n_78 : z_len (z_mk L Dh S R nx sl) (some 78) = some 300 := m_len rfl (by decide)
theorem l_79 {i : Int32} (hi : z_in i 80 = true) : z_ldI (z_mk L Dh S R nx sl) (some 79) i = some (S 79 i.toNatClampNeg) := m_ldI rfl (Or.inl rfl) hi
theorem s_79 {i x : Int32} (hi : z_in i 80 = true) : z_stI (z_mk L Dh S R nx sl) (some 79) i x = some (z_mk L Dh (z_ups S 79 i.toNatClampNeg x) R nx sl) := m_stI rfl hi
theorem n_79 : z_len (z_mk L Dh S R nx sl) (some 79) = some 80 := m_len rfl (by decide)
theorem l_80 {i : Int32} (hi : z_in i 10 = true) : z_ldI (z_mk L Dh S R nx sl) (some 80) i = some (S 80 i.toNatClampNeg) := m_ldI rfl (Or.inl rfl) hi
theorem s_80 {i x : Int32} (hi : z_in i 10 = true) : z_stI (z_mk L Dh S R nx sl) (some 80) i x = some (z_mk L Dh (z_ups S 80 i.toNatClampNeg x) R nx sl) := m_stI rfl hi
theorem n_80 : z_len (z_mk L Dh S R nx sl) (some 80) = some 10 := m_len rfl (by decide)
theorem l_81 {i : Int32} (hi : z_in i 120 = true) : z_ldI (z_mk L Dh S R nx sl) (some 81) i = some (S 81 i.toNatClampNeg) := m_ldI rfl (Or.inl rfl) hi
theorem s_81 {i x : Int32} (hi : z_in i 120 = true) : z_stI (z_mk L Dh S R nx sl) (some 81) i x = some (z_mk L Dh (z_ups S 81 i.toNatClampNeg x) R nx sl) := m_stI rfl hi
theorem n_81 : z_len (z_mk L Dh S R nx sl) (some 81) = some 120 := m_len rfl (by decide)
theorem l_82 {i : Int32} (hi : z_in i 120 = true) : z_ldI (z_mk L Dh S R nx sl) (some 82) i = some (S 82 i.toNatClampNeg) := m_ldI rfl (Or.inl rfl) hi
theorem s_82 {i x : Int32} (hi : z_in i 120 = true) : z_stI (z_mk L Dh S R nx sl) (some 82) i x = some (z_mk L Dh (z_ups S 82 i.toNatClampNeg x) R nx sl) := m_stI rfl hi
theorem n_82 : z_len (z_mk L Dh S R nx sl) (some 82) = some 120 := m_len rfl (by decide)
theorem l_83 {i : Int32} (hi : z_in i 400 = true) : z_ldB (z_mk L Dh S R nx sl) (some 83) i = some (S 83 i.toNatClampNeg) := m_ldB rfl (by decide) hi
theorem s_83 {i x : Int32} (hi : z_in i 400 = true) (hx : x = 0 ∨ x = 1) : z_stB (z_mk L Dh S R nx sl) (some 83) i x = some (z_mk L Dh (z_ups S 83 i.toNatClampNeg x) R nx sl) := m_stZ rfl hi hx
theorem n_83 : z_len (z_mk L Dh S R nx sl) (some 83) = some 400 := m_len rfl (by decide)
theorem l_84 {i : Int32} (hi : z_in i 400 = true) : z_ldB (z_mk L Dh S R nx sl) (some 84) i = some (S 84 i.toNatClampNeg) := m_ldB rfl (by decide) hi
theorem s_84 {i x : Int32} (hi : z_in i 400 = true) (hx : x = 0 ∨ x = 1) : z_stB (z_mk L Dh S R nx sl) (some 84) i x = some (z_mk L Dh (z_ups S 84 i.toNatClampNeg x) R nx sl) := m_stZ rfl hi hx
theorem n_84 : z_len (z_mk L Dh S R nx sl) (some 84) = some 400 := m_len rfl (by decide)
theorem l_85 {i : Int32} (hi : z_in i 3 = true) : z_ldI (z_mk L Dh S R nx sl) (some 85) i = some (S 85 i.toNatClampNeg) := m_ldI rfl (Or.inl rfl) hi
theorem s_85 {i x : Int32} (hi : z_in i 3 = true) : z_stI (z_mk L Dh S R nx sl) (some 85) i x = some (z_mk L Dh (z_ups S 85 i.toNatClampNeg x) R nx sl) := m_stI rfl hi
theorem n_85 : z_len (z_mk L Dh S R nx sl) (some 85) = some 3 := m_len rfl (by decide)
theorem l_86 {i : Int32} (hi : z_in i 7 = true) : z_ldI (z_mk L Dh S R nx sl) (some 86) i = some (S 86 i.toNatClampNeg) := m_ldI rfl (Or.inl rfl) hi
theorem s_86 {i x : Int32} (hi : z_in i 7 = true) : z_stI (z_mk L Dh S R nx sl) (some 86) i x = some (z_mk L Dh (z_ups S 86 i.toNatClampNeg x) R nx sl) := m_stI rfl hi
theorem n_86 : z_len (z_mk L Dh S R nx sl) (some 86) = some 7 := m_len rfl (by decide)
theorem l_0 {i : Int32} (hi : z_in i L = true) : z_ldI (z_mk L Dh S R nx sl) (some 0) i = some (S 0 i.toNatClampNeg) := m_ldI rfl (Or.inr rfl) hi
theorem n_0 : z_len (z_mk L Dh S R nx sl) (some 0) = some (Int32.ofNat L) := m_len rfl (by decide)
theorem l_1 {i : Int32} (hi : z_in i 8 = true) : z_ldI (z_mk L Dh S R nx sl) (some 1) i = some (S 1 i.toNatClampNeg) := m_ldI rfl (Or.inr rfl) hi
theorem n_1 : z_len (z_mk L Dh S R nx sl) (some 1) = some 8 := m_len rfl (by decide)
theorem l_2 {i : Int32} (hi : z_in i 8 = true) : z_ldI (z_mk L Dh S R nx sl) (some 2) i = some (S 2 i.toNatClampNeg) := m_ldI rfl (Or.inr rfl) hi
theorem n_2 : z_len (z_mk L Dh S R nx sl) (some 2) = some 8 := m_len rfl (by decide)
theorem l_4 {i : Int32} (hi : z_in i 7 = true) : z_ldB (z_mk L Dh S R nx sl) (some 4) i = some (S 4 i.toNatClampNeg) := m_ldB rfl (by decide) hi
theorem n_4 : z_len (z_mk L Dh S R nx sl) (some 4) = some 7 := m_len rfl (by decide)
theorem g_3_0 : z_gR (z_mk L Dh S R nx sl) (some 3) 12 0 = some (some 4) := m_gC rfl rfl
theorem g_3_1 : z_gI (z_mk L Dh S R nx sl) (some 3) 12 1 = some (S 3 1) := m_gI rfl rfl (by decide)
theorem o_3 : z_ob (z_mk L Dh S R nx sl) (some 3) 12 = some () := m_ob rfl
end ZHS
