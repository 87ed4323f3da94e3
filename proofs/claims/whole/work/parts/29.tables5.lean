/-- grip, as the class and as the model have it -/
def z_cG (S : Nat → Nat → Int32) (n : Nat) (g k : Int32) : Int32 := z_gfin (z_gacc (S 43) (S 44) (S 45) (S 46) (S 47) g k n)
def z_mG (S : Nat → Nat → Int32) (n : Nat) (g k : Int32) : Int32 := z_gfin (z_gacc (fun i => S 78 (i * 5 + 0)) (fun i => S 78 (i * 5 + 1)) (fun i => S 78 (i * 5 + 2)) (fun i => S 78 (i * 5 + 3)) (fun i => S 78 (i * 5 + 4)) g k n)
def z_gd (gr : Int32 → Int32 → Int32) (pg pv pr k : Int32) : Bool := decide (¬ pr < z_cutU (pv * pv * 10) (gr pg k))
theorem z_cutU_pos {n b : Int32} (hb : 1 ≤ b.toInt) : z_cutU n b = (n + b - 1) / b := by
  have e : (if (1 : Int32) < b then b else 1) = b := by
    by_cases h : (1 : Int32) < b
    · rw [if_pos h]
    · rw [if_neg h]
      have e1 : (1 : Int32).toInt = 1 := rfl
      have h2 : ¬ (1 : Int32).toInt < b.toInt := fun q => h (z_lt.mpr q)
      rw [z_eq]; omega
  unfold z_cutU
  rw [e]
section ZTF
variable {L : Nat} {Dh : Nat → z_Sh} {S : Nat → Nat → Int32} {R : Nat → Nat → Option Nat} {nx sl n : Nat}
theorem M205 (hn : n ≤ 60) (hS : S 52 39 = nI n) (hT : ∀ i, i < n → 1 ≤ (S 78 (i * 5 + 2)).toInt ∧ (S 78 (i * 5 + 2)).toInt ≤ 9999) (g k : Int32) : z_cI 1 205 [.inr (.inr (some 52)), .inl g, .inl k] (z_mk L Dh S R nx sl) = some (z_mG S n g k, z_mk L Dh S R nx sl) := by
  rw [E205]
  exact M205_8 hn hS hT g k n 0 (by omega)
theorem z_mG_ne (g k : Int32) : ¬ z_mG S n g k = 0 := fun q => by
  have := z_gfin_pos (z_gacc (fun i => S 78 (i * 5 + 0)) (fun i => S 78 (i * 5 + 1)) (fun i => S 78 (i * 5 + 2)) (fun i => S 78 (i * 5 + 3)) (fun i => S 78 (i * 5 + 4)) g k n)
  have q2 : z_gfin (z_gacc (fun i => S 78 (i * 5 + 0)) (fun i => S 78 (i * 5 + 1)) (fun i => S 78 (i * 5 + 2)) (fun i => S 78 (i * 5 + 3)) (fun i => S 78 (i * 5 + 4)) g k n) = 0 := q
  rw [q2] at this
  exact absurd this (by decide)
theorem M206 (hn : n ≤ 60) (hS : S 52 39 = nI n) (hT : ∀ i, i < n → 1 ≤ (S 78 (i * 5 + 2)).toInt ∧ (S 78 (i * 5 + 2)).toInt ≤ 9999) (g v k : Int32) : z_cI 2 206 [.inr (.inr (some 52)), .inl g, .inl v, .inl k] (z_mk L Dh S R nx sl) = some (z_cutU (v * v * 10) (z_mG S n g k), z_mk L Dh S R nx sl) := by
  rw [E206]
  simp only [o_52, z_bs, M205 hn hS hT]
  rw [if_neg (z_mG_ne g k), z_cutU_pos (b := z_mG S n g k) (z_gfin_pos _)]
theorem z_ld79 {i k : Nat} (h : i * 4 + k < 80) : z_ldI (z_mk L Dh S R nx sl) (some 79) (nI (i * 4 + k)) = some (S 79 (i * 4 + k)) := by
  rw [l_79 (z_in_nI h (by decide)), z_cl (by omega)]
theorem z_ld79a {i : Nat} (h : i < 20) : z_ldI (z_mk L Dh S R nx sl) (some 79) (nI i * 4) = some (S 79 (i * 4 + 0)) := by rw [show nI i * 4 = nI (i * 4 + 0) from z_pl0 i 4]; exact z_ld79 (by omega)
theorem z_ld79b {i : Nat} (h : i < 20) : z_ldI (z_mk L Dh S R nx sl) (some 79) (nI i * 4 + 1) = some (S 79 (i * 4 + 1)) := by rw [show nI i * 4 + 1 = nI (i * 4 + 1) from z_pl i 4 1]; exact z_ld79 (by omega)
theorem z_ld79c {i : Nat} (h : i < 20) : z_ldI (z_mk L Dh S R nx sl) (some 79) (nI i * 4 + 2) = some (S 79 (i * 4 + 2)) := by rw [show nI i * 4 + 2 = nI (i * 4 + 2) from z_pl i 4 2]; exact z_ld79 (by omega)
theorem z_ld79d {i : Nat} (h : i < 20) : z_ldI (z_mk L Dh S R nx sl) (some 79) (nI i * 4 + 3) = some (S 79 (i * 4 + 3)) := by rw [show nI i * 4 + 3 = nI (i * 4 + 3) from z_pl i 4 3]; exact z_ld79 (by omega)
theorem M210 (hn : n ≤ 60) (hS : S 52 39 = nI n) (hT : ∀ i, i < n → 1 ≤ (S 78 (i * 5 + 2)).toInt ∧ (S 78 (i * 5 + 2)).toInt ≤ 9999) {i : Nat} (hi : i < 20) (k : Int32) : z_cI 3 210 [.inr (.inr (some 52)), .inl (nI i), .inl k] (z_mk L Dh S R nx sl) = some (if z_gd (z_mG S n) (S 79 (i * 4 + 0)) (S 79 (i * 4 + 1)) (S 79 (i * 4 + 2)) k = true then 1 else 0, z_mk L Dh S R nx sl) := by
  rw [E210]
  simp only [g_52_42, o_52, z_bs, z_ld79a hi, z_ld79b hi, z_ld79c hi, M206 hn hS hT, z_gd, decide_eq_true_iff]
  by_cases c : S 79 (i * 4 + 2) < z_cutU (S 79 (i * 4 + 1) * S 79 (i * 4 + 1) * 10) (z_mG S n (S 79 (i * 4 + 0)) k)
  · rw [if_pos c, if_neg (fun q => q c)]
  · rw [if_neg c, if_pos c]
theorem M212_2 {m : Nat} (hn : n ≤ 60) (hS : S 52 39 = nI n) (hT : ∀ i, i < n → 1 ≤ (S 78 (i * 5 + 2)).toInt ∧ (S 78 (i * 5 + 2)).toInt ≤ 9999) (hm : m ≤ 20) (hP : S 52 41 = nI m) : ∀ (j i : Nat), i + j = m → L212_2 (some 52) (nI i) (z_mk L Dh S R nx sl) = some (z_ovt (fun i => z_gd (z_mG S n) (S 79 (i * 4 + 0)) (S 79 (i * 4 + 1)) (S 79 (i * 4 + 2)) (S 79 (i * 4 + 3)) && !z_gd (z_mG S n) (S 79 (i * 4 + 0)) (S 79 (i * 4 + 1)) (S 79 (i * 4 + 2)) (S 52 38)) i j, z_mk L Dh S R nx sl) := by
  intro j
  induction j with
  | zero =>
    intro i hi
    have e : i = m := by omega
    subst e
    rw [E212_2]
    simp only [g_52_41, z_bs, hP]
    rw [if_pos (Int32.le_refl _)]
    rfl
  | succ j ih =>
    intro i hi
    have hlt : i < 20 := by omega
    have ih := ih (i + 1) (by omega)
    rw [← nI_1] at ih
    rw [E212_2]
    simp only [g_52_41, g_52_42, g_52_38, o_52, z_bs, hP, z_ld79d hlt, M210 hn hS hT hlt]
    rw [if_neg (nI_ge (by omega) (by omega))]
    unfold z_ovt
    by_cases c1 : z_gd (z_mG S n) (S 79 (i * 4 + 0)) (S 79 (i * 4 + 1)) (S 79 (i * 4 + 2)) (S 79 (i * 4 + 3)) = true
    · rw [if_pos c1, if_neg (by decide), c1]
      by_cases c2 : z_gd (z_mG S n) (S 79 (i * 4 + 0)) (S 79 (i * 4 + 1)) (S 79 (i * 4 + 2)) (S 52 38) = true
      · rw [if_pos c2, if_pos (by decide), c2, if_neg (by decide)]
        exact ih
      · have c3 : z_gd (z_mG S n) (S 79 (i * 4 + 0)) (S 79 (i * 4 + 1)) (S 79 (i * 4 + 2)) (S 52 38) = false := by simpa using c2
        rw [if_neg c2, if_neg (by decide), c3, if_pos (by decide)]
    · have c3 : z_gd (z_mG S n) (S 79 (i * 4 + 0)) (S 79 (i * 4 + 1)) (S 79 (i * 4 + 2)) (S 79 (i * 4 + 3)) = false := by simpa using c1
      rw [if_neg c1, if_pos rfl, c3, if_neg (by simp)]
      exact ih
theorem M212 {m : Nat} (hn : n ≤ 60) (hS : S 52 39 = nI n) (hT : ∀ i, i < n → 1 ≤ (S 78 (i * 5 + 2)).toInt ∧ (S 78 (i * 5 + 2)).toInt ≤ 9999) (hm : m ≤ 20) (hP : S 52 41 = nI m) : z_cI 4 212 [.inr (.inr (some 52))] (z_mk L Dh S R nx sl) = some (z_ovt (fun i => z_gd (z_mG S n) (S 79 (i * 4 + 0)) (S 79 (i * 4 + 1)) (S 79 (i * 4 + 2)) (S 79 (i * 4 + 3)) && !z_gd (z_mG S n) (S 79 (i * 4 + 0)) (S 79 (i * 4 + 1)) (S 79 (i * 4 + 2)) (S 52 38)) 0 m, z_mk L Dh S R nx sl) := by
  rw [E212]
  exact M212_2 hn hS hT hm hP m 0 (by omega)
theorem M213_4 (hn : n ≤ 60) (hS : S 52 39 = nI n) : ∀ (j i : Nat), i + j = n → L213_4 (some 52) (z_many (fun i => decide (¬ S 78 (i * 5 + 4) ≤ S 52 38)) i) (nI i) (z_mk L Dh S R nx sl) = some (z_many (fun i => decide (¬ S 78 (i * 5 + 4) ≤ S 52 38)) n, z_mk L Dh S R nx sl) := by
  intro j
  induction j with
  | zero =>
    intro i hi
    have e : i = n := by omega
    subst e
    rw [E213_4]
    simp only [g_52_39, z_bs, hS]
    rw [if_pos (Int32.le_refl _)]
  | succ j ih =>
    intro i hi
    have ih := ih (i + 1) (by omega)
    rw [← nI_1] at ih
    rw [E213_4]
    have a4 : nI i * 5 + 4 = nI (i * 5 + 4) := z_pl i 5 4
    have b4 : z_ldI (z_mk L Dh S R nx sl) (some 78) (nI i * 5 + 4) = some (S 78 (i * 5 + 4)) := by rw [a4]; exact z_ld78 (by omega)
    simp only [g_52_39, g_52_40, g_52_38, z_bs, hS, b4]
    rw [if_neg (nI_ge (by omega) (by omega))]
    rw [z_many_s] at ih
    by_cases c : S 78 (i * 5 + 4) ≤ S 52 38
    · rw [if_neg (by simpa using c)] at ih
      rw [if_pos c]
      exact ih
    · rw [if_pos (by simpa using c)] at ih
      rw [if_neg c]
      exact ih
theorem M213 (hn : n ≤ 60) (hS : S 52 39 = nI n) : z_cI 1 213 [.inr (.inr (some 52))] (z_mk L Dh S R nx sl) = some (z_many (fun i => decide (¬ S 78 (i * 5 + 4) ≤ S 52 38)) n, z_mk L Dh S R nx sl) := by
  rw [E213]
  exact M213_4 hn hS n 0 (by omega)
end ZTF
