section ZTC
variable {L : Nat} {Dh : Nat → z_Sh} {S : Nat → Nat → Int32} {R : Nat → Nat → Option Nat} {nx sl : Nat}
theorem z_in_nI {i n : Nat} (h : i < n) (hn : n < 2 ^ 31) : z_in (nI i) n = true := z_in_iff.mpr (nI_in h hn)
theorem z_cl {i : Nat} (h : i < 2 ^ 31) : (nI i).toNatClampNeg = i := nI_clamp h
/-- Math -/
theorem M229 {a b : Int32} {h : z_H} : z_cI 1 229 [.inl a, .inl b] h = some (if a < b then b else a, h) := by
  rw [E229]
  by_cases hc : a < b
  · rw [if_pos hc, if_pos hc]
  · rw [if_neg hc, if_neg hc]
theorem M230 {a b : Int32} {h : z_H} : z_cI 1 230 [.inl a, .inl b] h = some (if b < a then b else a, h) := by
  rw [E230]
  by_cases hc : b < a
  · rw [if_pos hc, if_pos hc]
  · rw [if_neg hc, if_neg hc]
theorem M228 {a : Int32} {h : z_H} : z_cI 1 228 [.inl a] h = some (if 0 ≤ a then a else -a, h) := by
  rw [E228]
  by_cases hc : (0 : Int32) ≤ a
  · rw [if_pos hc, if_pos hc]
  · rw [if_neg hc, if_neg hc]
/-- a run counts -/
def z_cnt (K B k : Int32) : Bool := decide (K ≤ k) && decide (k < B)
theorem M61 {i : Nat} {k : Int32} (hi : i < 60) : z_cI 1 61 [.inr (.inr (some 42)), .inl (nI i), .inl k] (z_mk L Dh S R nx sl) = some (if z_cnt (S 46 i) (S 47 i) k = true then 1 else 0, z_mk L Dh S R nx sl) := by
  have h1 : z_in (nI i) 60 = true := z_in_nI hi (by decide)
  have h2 : (nI i).toNatClampNeg = i := z_cl (by omega)
  rw [E61]
  simp only [g_42_4, g_42_5, z_bs, l_46 h1, l_47 h1, h2, z_cnt, Bool.and_eq_true, decide_eq_true_iff]
  by_cases c1 : k < S 46 i
  · rw [if_pos c1, if_neg (fun q => absurd q.1 (Int32.not_le.mpr c1))]
  · rw [if_neg c1]
    by_cases c2 : S 47 i ≤ k
    · rw [if_pos c2, if_neg (fun q => absurd c2 (Int32.not_le.mpr q.2))]
    · rw [if_neg c2, if_pos ⟨Int32.not_lt.mp c1, Int32.not_le.mp c2⟩]
/-- squares and stops of the runs of a ground that count on a day -/
def z_gacc (G V T K B : Nat → Int32) (g k : Int32) : Nat → Int32 × Int32
  | 0 => (0, 0)
  | i + 1 => if G i = g ∧ z_cnt (K i) (B i) k = true then ((z_gacc G V T K B g k i).1 + V i * V i * 10, (z_gacc G V T K B g k i).2 + T i) else z_gacc G V T K B g k i
def z_gfin (p : Int32 × Int32) : Int32 := if 1 ≤ p.2 then (if 1 < p.1 / p.2 then p.1 / p.2 else 1) else 20
theorem M63_8 {n : Nat} (hn : n ≤ 60) (hS : S 42 6 = nI n) (g k : Int32) : ∀ (j i : Nat), i + j = n → L63_8 (some 42) g k (z_gacc (S 43) (S 44) (S 45) (S 46) (S 47) g k i).1 (z_gacc (S 43) (S 44) (S 45) (S 46) (S 47) g k i).2 (nI i) (z_mk L Dh S R nx sl) = some (z_gfin (z_gacc (S 43) (S 44) (S 45) (S 46) (S 47) g k n), z_mk L Dh S R nx sl) := by
  intro j
  induction j with
  | zero =>
    intro i hi
    have e : i = n := by omega
    subst e
    rw [E63_8]
    simp only [g_42_6, z_bs, hS, M229]
    rw [if_pos (Int32.le_refl _)]
    unfold z_gfin
    by_cases c1 : (1 : Int32) ≤ (z_gacc (S 43) (S 44) (S 45) (S 46) (S 47) g k i).2
    · have c2 : ¬ (z_gacc (S 43) (S 44) (S 45) (S 46) (S 47) g k i).2 = 0 := fun q => by rw [q] at c1; exact absurd c1 (by decide)
      rw [if_pos c1, if_neg c2, if_pos c1]
    · rw [if_neg c1, if_neg c1]
  | succ j ih =>
    intro i hi
    have hlt : i < 60 := by omega
    have h1 : z_in (nI i) 60 = true := z_in_nI hlt (by decide)
    have h2 : (nI i).toNatClampNeg = i := z_cl (by omega)
    have ih := ih (i + 1) (by omega)
    rw [← nI_1] at ih
    rw [E63_8]
    simp only [g_42_6, g_42_1, g_42_2, g_42_3, o_42, z_bs, hS, l_43 h1, l_44 h1, l_45 h1, h2, M61 hlt]
    rw [if_neg (nI_ge (by omega) (by omega))]
    have step : z_gacc (S 43) (S 44) (S 45) (S 46) (S 47) g k (i + 1) = if S 43 i = g ∧ z_cnt (S 46 i) (S 47 i) k = true then ((z_gacc (S 43) (S 44) (S 45) (S 46) (S 47) g k i).1 + S 44 i * S 44 i * 10, (z_gacc (S 43) (S 44) (S 45) (S 46) (S 47) g k i).2 + S 45 i) else z_gacc (S 43) (S 44) (S 45) (S 46) (S 47) g k i := rfl
    rw [step] at ih
    by_cases c1 : S 43 i = g
    · rw [if_neg (fun q => q c1)]
      by_cases c2 : z_cnt (S 46 i) (S 47 i) k = true
      · rw [if_pos ⟨c1, c2⟩] at ih
        rw [if_pos c2, if_neg (by decide)]
        exact ih
      · rw [if_neg (fun q => c2 q.2)] at ih
        rw [if_neg c2, if_pos rfl]
        exact ih
    · rw [if_neg (fun q => c1 q.1)] at ih
      rw [if_pos c1]
      exact ih
theorem M63 {n : Nat} (hn : n ≤ 60) (hS : S 42 6 = nI n) (g k : Int32) : z_cI 2 63 [.inr (.inr (some 42)), .inl g, .inl k] (z_mk L Dh S R nx sl) = some (z_gfin (z_gacc (S 43) (S 44) (S 45) (S 46) (S 47) g k n), z_mk L Dh S R nx sl) := by
  rw [E63]
  exact M63_8 hn hS g k n 0 (by omega)
end ZTC
