/-! runs and plans: both sides -/
section ZTD
/-- a quotient cut up -/
def z_cutU (n b : Int32) : Int32 := (n + (if 1 < b then b else 1) - 1) / (if 1 < b then b else 1)
theorem z_max1 (b : Int32) : ¬ (if (1 : Int32) < b then b else 1) = 0 := by
  by_cases h : (1 : Int32) < b
  · rw [if_pos h]
    intro q
    rw [q] at h
    exact absurd h (by decide)
  · rw [if_neg h]; decide
/-- stops add up to no less than 0 -/
theorem z_gacc_nn (G V T K B : Nat → Int32) (g k : Int32) : ∀ n : Nat, n ≤ 60 → (∀ i, i < n → 1 ≤ (T i).toInt ∧ (T i).toInt ≤ 9999) → 0 ≤ (z_gacc G V T K B g k n).2.toInt ∧ (z_gacc G V T K B g k n).2.toInt ≤ 9999 * n
  | 0, _, _ => by simp [z_gacc]
  | n + 1, hn, hT => by
    have ih := z_gacc_nn G V T K B g k n (by omega) (fun i hi => hT i (by omega))
    have ht := hT n (by omega)
    unfold z_gacc
    by_cases c : G n = g ∧ z_cnt (K n) (B n) k = true
    · rw [if_pos c]
      show 0 ≤ ((z_gacc G V T K B g k n).2 + T n).toInt ∧ ((z_gacc G V T K B g k n).2 + T n).toInt ≤ _
      rw [z_add (by omega) (by omega)]
      omega
    · rw [if_neg c]
      omega
theorem z_gacc_congr {G V T K B G' V' T' K' B' : Nat → Int32} {g k : Int32} : ∀ n : Nat, (∀ i, i < n → G i = G' i ∧ V i = V' i ∧ T i = T' i ∧ z_cnt (K i) (B i) k = z_cnt (K' i) (B' i) k) → z_gacc G V T K B g k n = z_gacc G' V' T' K' B' g k n
  | 0, _ => rfl
  | n + 1, h => by
    obtain ⟨h1, h2, h3, h4⟩ := h n (by omega)
    unfold z_gacc
    rw [z_gacc_congr n (fun i hi => h i (by omega)), h1, h2, h3, h4]
theorem z_gfin_pos (p : Int32 × Int32) : 1 ≤ (z_gfin p).toInt := by
  unfold z_gfin
  by_cases c : 1 ≤ p.2
  · rw [if_pos c]
    by_cases c2 : 1 < p.1 / p.2
    · rw [if_pos c2]
      have := z_lt.mp c2
      have e : (1 : Int32).toInt = 1 := rfl
      omega
    · rw [if_neg c2]; decide
  · rw [if_neg c]; decide
/-- whether a plan is good -/
def z_good (G V T K B : Nat → Int32) (n : Nat) (pg pv pr k : Int32) : Bool := decide (¬ pr < z_cutU (pv * pv * 10) (z_gfin (z_gacc G V T K B pg k n)))
def z_ovt (gd : Nat → Bool) : Nat → Nat → Int32
  | _, 0 => -9
  | i, j + 1 => if gd i = true then nI i else z_ovt gd (i + 1) j
variable {L : Nat} {Dh : Nat → z_Sh} {S : Nat → Nat → Int32} {R : Nat → Nat → Option Nat} {nx sl : Nat}
theorem M127 {n b : Int32} {h : z_H} : z_cI 2 127 [.inl n, .inl b] h = some (z_cutU n b, h) := by
  rw [E127]
  simp only [M229, z_bs]
  rw [if_neg (z_max1 b)]
  rfl
theorem M64 {n : Nat} (hn : n ≤ 60) (hS : S 42 6 = nI n) (g v k : Int32) : z_cI 3 64 [.inr (.inr (some 42)), .inl g, .inl v, .inl k] (z_mk L Dh S R nx sl) = some (z_cutU (v * v * 10) (z_gfin (z_gacc (S 43) (S 44) (S 45) (S 46) (S 47) g k n)), z_mk L Dh S R nx sl) := by
  rw [E64]
  simp only [o_42, z_bs, M63 hn hS, M127]
theorem M66 {n : Nat} (hn : n ≤ 60) (hS : S 42 6 = nI n) {i : Nat} (hi : i < 20) (k : Int32) : z_cI 4 66 [.inr (.inr (some 42)), .inl (nI i), .inl k] (z_mk L Dh S R nx sl) = some (if z_good (S 43) (S 44) (S 45) (S 46) (S 47) n (S 48 i) (S 49 i) (S 50 i) k = true then 1 else 0, z_mk L Dh S R nx sl) := by
  have h1 : z_in (nI i) 20 = true := z_in_nI hi (by decide)
  have h2 : (nI i).toNatClampNeg = i := z_cl (by omega)
  rw [E66]
  simp only [g_42_7, g_42_8, g_42_9, o_42, z_bs, l_48 h1, l_49 h1, l_50 h1, h2, M64 hn hS, z_good, decide_eq_true_iff]
  by_cases c : S 50 i < z_cutU (S 49 i * S 49 i * 10) (z_gfin (z_gacc (S 43) (S 44) (S 45) (S 46) (S 47) (S 48 i) k n))
  · rw [if_pos c, if_neg (fun q => q c)]
  · rw [if_neg c, if_pos c]
theorem M67_2 {n m : Nat} (hn : n ≤ 60) (hS : S 42 6 = nI n) (hm : m ≤ 20) (hP : S 42 11 = nI m) : ∀ (j i : Nat), i + j = m → L67_2 (some 42) (nI i) (z_mk L Dh S R nx sl) = some (z_ovt (fun i => z_good (S 43) (S 44) (S 45) (S 46) (S 47) n (S 48 i) (S 49 i) (S 50 i) (S 51 i) && !z_good (S 43) (S 44) (S 45) (S 46) (S 47) n (S 48 i) (S 49 i) (S 50 i) (S 42 0)) i j, z_mk L Dh S R nx sl) := by
  intro j
  induction j with
  | zero =>
    intro i hi
    have e : i = m := by omega
    subst e
    rw [E67_2]
    simp only [g_42_11, z_bs, hP]
    rw [if_pos (Int32.le_refl _)]
    rfl
  | succ j ih =>
    intro i hi
    have hlt : i < 20 := by omega
    have h1 : z_in (nI i) 20 = true := z_in_nI hlt (by decide)
    have h2 : (nI i).toNatClampNeg = i := z_cl (by omega)
    have ih := ih (i + 1) (by omega)
    rw [← nI_1] at ih
    rw [E67_2]
    simp only [g_42_11, g_42_10, g_42_0, o_42, z_bs, hP, l_51 h1, h2, M66 hn hS hlt]
    rw [if_neg (nI_ge (by omega) (by omega))]
    unfold z_ovt
    by_cases c1 : z_good (S 43) (S 44) (S 45) (S 46) (S 47) n (S 48 i) (S 49 i) (S 50 i) (S 51 i) = true
    · rw [if_pos c1, if_neg (by decide), c1]
      by_cases c2 : z_good (S 43) (S 44) (S 45) (S 46) (S 47) n (S 48 i) (S 49 i) (S 50 i) (S 42 0) = true
      · rw [if_pos c2, if_pos (by decide), c2]
        rw [if_neg (by decide)]
        exact ih
      · rw [if_neg c2, if_neg (by decide)]
        have c3 : z_good (S 43) (S 44) (S 45) (S 46) (S 47) n (S 48 i) (S 49 i) (S 50 i) (S 42 0) = false := by simpa using c2
        rw [c3, if_pos (by decide)]
    · have c3 : z_good (S 43) (S 44) (S 45) (S 46) (S 47) n (S 48 i) (S 49 i) (S 50 i) (S 51 i) = false := by simpa using c1
      rw [if_neg c1, if_pos rfl, c3]
      rw [if_neg (by simp)]
      exact ih
theorem M67 {n m : Nat} (hn : n ≤ 60) (hS : S 42 6 = nI n) (hm : m ≤ 20) (hP : S 42 11 = nI m) : z_cI 5 67 [.inr (.inr (some 42))] (z_mk L Dh S R nx sl) = some (z_ovt (fun i => z_good (S 43) (S 44) (S 45) (S 46) (S 47) n (S 48 i) (S 49 i) (S 50 i) (S 51 i) && !z_good (S 43) (S 44) (S 45) (S 46) (S 47) n (S 48 i) (S 49 i) (S 50 i) (S 42 0)) 0 m, z_mk L Dh S R nx sl) := by
  rw [E67]
  exact M67_2 hn hS hm hP m 0 (by omega)
/-- how many runs count -/
def z_many (c : Nat → Bool) : Nat → Int32
  | 0 => 0
  | i + 1 => if c i = true then z_many c i + 1 else z_many c i
theorem z_many_s (c : Nat → Bool) (i : Nat) : z_many c (i + 1) = if c i = true then z_many c i + 1 else z_many c i := rfl
theorem M62_4 {n : Nat} (hn : n ≤ 60) (hS : S 42 6 = nI n) : ∀ (j i : Nat), i + j = n → L62_4 (some 42) (z_many (fun i => z_cnt (S 46 i) (S 47 i) (S 42 0)) i) (nI i) (z_mk L Dh S R nx sl) = some (z_many (fun i => z_cnt (S 46 i) (S 47 i) (S 42 0)) n, z_mk L Dh S R nx sl) := by
  intro j
  induction j with
  | zero =>
    intro i hi
    have e : i = n := by omega
    subst e
    rw [E62_4]
    simp only [g_42_6, z_bs, hS]
    rw [if_pos (Int32.le_refl _)]
  | succ j ih =>
    intro i hi
    have hlt : i < 60 := by omega
    have ih := ih (i + 1) (by omega)
    rw [← nI_1] at ih
    rw [E62_4]
    simp only [g_42_6, g_42_0, o_42, z_bs, hS, M61 hlt]
    rw [if_neg (nI_ge (by omega) (by omega))]
    rw [z_many_s] at ih
    by_cases c : z_cnt (S 46 i) (S 47 i) (S 42 0) = true
    · rw [if_pos c] at ih
      rw [if_pos c, if_neg (by decide)]
      exact ih
    · rw [if_neg c] at ih
      rw [if_neg c, if_pos rfl]
      exact ih
theorem M62 {n : Nat} (hn : n ≤ 60) (hS : S 42 6 = nI n) : z_cI 2 62 [.inr (.inr (some 42))] (z_mk L Dh S R nx sl) = some (z_many (fun i => z_cnt (S 46 i) (S 47 i) (S 42 0)) n, z_mk L Dh S R nx sl) := by
  rw [E62]
  exact M62_4 hn hS n 0 (by omega)
end ZTD
