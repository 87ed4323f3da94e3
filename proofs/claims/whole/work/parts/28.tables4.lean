section ZTE
variable {L : Nat} {Dh : Nat → z_Sh} {S : Nat → Nat → Int32} {R : Nat → Nat → Option Nat} {nx sl : Nat}
/-- places of rows of c: i times c, and k -/
theorem z_pl (i c k : Nat) : nI i * nI c + nI k = nI (i * c + k) := by rw [pk_mul, nI_add]
theorem z_pl0 (i c : Nat) : nI i * nI c = nI (i * c) := pk_mul i c
theorem z_ld78 {i k : Nat} (h : i * 5 + k < 300) : z_ldI (z_mk L Dh S R nx sl) (some 78) (nI (i * 5 + k)) = some (S 78 (i * 5 + k)) := by
  rw [l_78 (z_in_nI h (by decide)), z_cl (by omega)]
theorem z_gacc_s (G V T K B : Nat → Int32) (g k : Int32) (i : Nat) : z_gacc G V T K B g k (i + 1) = if G i = g ∧ z_cnt (K i) (B i) k = true then ((z_gacc G V T K B g k i).1 + V i * V i * 10, (z_gacc G V T K B g k i).2 + T i) else z_gacc G V T K B g k i := rfl
theorem M205_8 {n : Nat} (hn : n ≤ 60) (hS : S 52 39 = nI n) (hT : ∀ i, i < n → 1 ≤ (S 78 (i * 5 + 2)).toInt ∧ (S 78 (i * 5 + 2)).toInt ≤ 9999) (g k : Int32) : ∀ (j i : Nat), i + j = n → L205_8 (some 52) g k (z_gacc (fun i => S 78 (i * 5 + 0)) (fun i => S 78 (i * 5 + 1)) (fun i => S 78 (i * 5 + 2)) (fun i => S 78 (i * 5 + 3)) (fun i => S 78 (i * 5 + 4)) g k i).1 (z_gacc (fun i => S 78 (i * 5 + 0)) (fun i => S 78 (i * 5 + 1)) (fun i => S 78 (i * 5 + 2)) (fun i => S 78 (i * 5 + 3)) (fun i => S 78 (i * 5 + 4)) g k i).2 (nI i) (z_mk L Dh S R nx sl) = some (z_gfin (z_gacc (fun i => S 78 (i * 5 + 0)) (fun i => S 78 (i * 5 + 1)) (fun i => S 78 (i * 5 + 2)) (fun i => S 78 (i * 5 + 3)) (fun i => S 78 (i * 5 + 4)) g k n), z_mk L Dh S R nx sl) := by
  intro j
  induction j with
  | zero =>
    intro i hi
    have e : i = n := by omega
    subst e
    have hnn := z_gacc_nn (fun i => S 78 (i * 5 + 0)) (fun i => S 78 (i * 5 + 1)) (fun i => S 78 (i * 5 + 2)) (fun i => S 78 (i * 5 + 3)) (fun i => S 78 (i * 5 + 4)) g k i hn hT
    generalize z_gacc (fun i => S 78 (i * 5 + 0)) (fun i => S 78 (i * 5 + 1)) (fun i => S 78 (i * 5 + 2)) (fun i => S 78 (i * 5 + 3)) (fun i => S 78 (i * 5 + 4)) g k i = p at hnn ⊢
    rw [E205_8]
    simp only [g_52_39, z_bs, hS]
    rw [if_pos (Int32.le_refl _)]
    unfold z_gfin
    by_cases c : p.2 = 0
    · rw [if_neg (fun q => q c), if_neg (by rw [c]; decide)]
    · have c1 : (1 : Int32) ≤ p.2 := by
        rw [z_le]
        have e0 : (0 : Int32).toInt = 0 := rfl
        have e1 : (1 : Int32).toInt = 1 := rfl
        have hne : p.2.toInt ≠ 0 := fun q => c (by rw [z_eq, q, e0])
        omega
      rw [if_pos c, if_neg c, if_pos c1]
      by_cases c2 : (1 : Int32) ≤ p.1 / p.2
      · rw [if_pos c2, if_neg c]
        by_cases c3 : (1 : Int32) < p.1 / p.2
        · rw [if_pos c3]
        · rw [if_neg c3, Int32.le_antisymm (Int32.not_lt.mp c3) c2]
      · rw [if_neg c2, if_neg (fun q => c2 (Int32.le_of_lt q))]
  | succ j ih =>
    intro i hi
    have ih := ih (i + 1) (by omega)
    rw [← nI_1] at ih
    rw [E205_8]
    have a0 : nI i * 5 = nI (i * 5 + 0) := z_pl0 i 5
    have a1 : nI i * 5 + 1 = nI (i * 5 + 1) := z_pl i 5 1
    have a2 : nI i * 5 + 2 = nI (i * 5 + 2) := z_pl i 5 2
    have a3 : nI i * 5 + 3 = nI (i * 5 + 3) := z_pl i 5 3
    have a4 : nI i * 5 + 4 = nI (i * 5 + 4) := z_pl i 5 4
    have b0 : z_ldI (z_mk L Dh S R nx sl) (some 78) (nI i * 5) = some (S 78 (i * 5 + 0)) := by rw [a0]; exact z_ld78 (by omega)
    have b1 : z_ldI (z_mk L Dh S R nx sl) (some 78) (nI i * 5 + 1) = some (S 78 (i * 5 + 1)) := by rw [a1]; exact z_ld78 (by omega)
    have b2 : z_ldI (z_mk L Dh S R nx sl) (some 78) (nI i * 5 + 2) = some (S 78 (i * 5 + 2)) := by rw [a2]; exact z_ld78 (by omega)
    have b3 : z_ldI (z_mk L Dh S R nx sl) (some 78) (nI i * 5 + 3) = some (S 78 (i * 5 + 3)) := by rw [a3]; exact z_ld78 (by omega)
    have b4 : z_ldI (z_mk L Dh S R nx sl) (some 78) (nI i * 5 + 4) = some (S 78 (i * 5 + 4)) := by rw [a4]; exact z_ld78 (by omega)
    simp only [g_52_39, g_52_40, z_bs, hS, b0, b1, b2, b3, b4]
    rw [if_neg (nI_ge (by omega) (by omega))]
    rw [z_gacc_s] at ih
    by_cases c1 : S 78 (i * 5 + 0) = g
    · rw [if_neg (fun q => q c1)]
      by_cases c2 : k < S 78 (i * 5 + 3)
      · have c4 : ¬ (S 78 (i * 5 + 0) = g ∧ z_cnt (S 78 (i * 5 + 3)) (S 78 (i * 5 + 4)) k = true) := fun q => by
          have := q.2
          unfold z_cnt at this
          rw [Bool.and_eq_true, decide_eq_true_iff] at this
          exact absurd this.1 (Int32.not_le.mpr c2)
        rw [if_neg c4] at ih
        rw [if_pos c2]
        exact ih
      · rw [if_neg c2]
        by_cases c3 : k < S 78 (i * 5 + 4)
        · have c4 : S 78 (i * 5 + 0) = g ∧ z_cnt (S 78 (i * 5 + 3)) (S 78 (i * 5 + 4)) k = true := ⟨c1, by unfold z_cnt; rw [Bool.and_eq_true, decide_eq_true_iff, decide_eq_true_iff]; exact ⟨Int32.not_lt.mp c2, c3⟩⟩
          rw [if_pos c4] at ih
          rw [if_pos c3]
          exact ih
        · have c4 : ¬ (S 78 (i * 5 + 0) = g ∧ z_cnt (S 78 (i * 5 + 3)) (S 78 (i * 5 + 4)) k = true) := fun q => by
            have := q.2
            unfold z_cnt at this
            rw [Bool.and_eq_true, decide_eq_true_iff, decide_eq_true_iff] at this
            exact c3 this.2
          rw [if_neg c4] at ih
          rw [if_neg c3]
          exact ih
    · rw [if_neg (fun q => c1 q.1)] at ih
      rw [if_pos c1]
      exact ih
end ZTE
