/-! directions and ways -/
def y_sx (d : Nat) : Int32 := [1, 1, 0, -1, -1, -1, 0, 1].getD d 0
def y_sy (d : Nat) : Int32 := [0, 1, 1, 1, 0, -1, -1, -1].getD d 0
def y_dx (d : Nat) : Int := [1, 1, 0, -1, -1, -1, 0, 1].getD d 0
def y_dy (d : Nat) : Int := [0, 1, 1, 1, 0, -1, -1, -1].getD d 0
theorem y_sxI : ∀ d, d < 8 → (y_sx d).toInt = y_dx d ∧ (y_sy d).toInt = y_dy d := by decide +kernel
def y_cs (d : Nat) : Int32 := 20 * y_sy d + y_sx d
/-- from the cell c, k cells that way: still on the set; where -/
def y_onP (c d k : Nat) : Prop := 0 ≤ ((c % 20 : Nat) : Int) + y_dx d * (k : Int) ∧ ((c % 20 : Nat) : Int) + y_dx d * (k : Int) ≤ 19 ∧ 0 ≤ ((c / 20 : Nat) : Int) + y_dy d * (k : Int) ∧ ((c / 20 : Nat) : Int) + y_dy d * (k : Int) ≤ 19
def y_onb (c d k : Nat) : Bool := decide (0 ≤ ((c % 20 : Nat) : Int) + y_dx d * (k : Int) ∧ ((c % 20 : Nat) : Int) + y_dx d * (k : Int) ≤ 19 ∧ 0 ≤ ((c / 20 : Nat) : Int) + y_dy d * (k : Int) ∧ ((c / 20 : Nat) : Int) + y_dy d * (k : Int) ≤ 19)
theorem y_on_iff {c d k : Nat} : y_onb c d k = true ↔ y_onP c d k := decide_eq_true_iff
def y_al (c d k : Nat) : Nat := ((c : Int) + (20 * y_dy d + y_dx d) * (k : Int)).toNat
theorem y_8 {P : Nat → Prop} (h0 : P 0) (h1 : P 1) (h2 : P 2) (h3 : P 3) (h4 : P 4) (h5 : P 5) (h6 : P 6) (h7 : P 7) {d : Nat} (hd : d < 8) : P d := by
  rcases (show d = 0 ∨ d = 1 ∨ d = 2 ∨ d = 3 ∨ d = 4 ∨ d = 5 ∨ d = 6 ∨ d = 7 by omega) with rfl | rfl | rfl | rfl | rfl | rfl | rfl | rfl
  · exact h0
  · exact h1
  · exact h2
  · exact h3
  · exact h4
  · exact h5
  · exact h6
  · exact h7
theorem y_dxs : ∀ d, d < 8 → (y_dx d = -1 ∨ y_dx d = 0 ∨ y_dx d = 1) ∧ (y_dy d = -1 ∨ y_dy d = 0 ∨ y_dy d = 1) := by decide +kernel
theorem y_dd {d : Nat} (hd : d < 8) (k : Nat) : (y_dx d * (k : Int) = -k ∨ y_dx d * (k : Int) = 0 ∨ y_dx d * (k : Int) = k) ∧ (y_dy d * (k : Int) = -k ∨ y_dy d * (k : Int) = 0 ∨ y_dy d * (k : Int) = k) := by
  obtain ⟨h1, h2⟩ := y_dxs d hd
  refine ⟨?_, ?_⟩
  · rcases h1 with h | h | h <;> rw [h] <;> omega
  · rcases h2 with h | h | h <;> rw [h] <;> omega
theorem y_al_int (c d k : Nat) : (c : Int) + (20 * y_dy d + y_dx d) * (k : Int) = 20 * (((c / 20 : Nat) : Int) + y_dy d * (k : Int)) + (((c % 20 : Nat) : Int) + y_dx d * (k : Int)) := by
  rw [Int.add_mul, Int.mul_assoc]
  generalize y_dy d * (k : Int) = a
  generalize y_dx d * (k : Int) = b
  omega
theorem y_al_toInt {c d k : Nat} (h : y_onP c d k) : (y_al c d k : Int) = 20 * (((c / 20 : Nat) : Int) + y_dy d * (k : Int)) + (((c % 20 : Nat) : Int) + y_dx d * (k : Int)) := by
  obtain ⟨h1, h2, h3, h4⟩ := h
  unfold y_al
  rw [y_al_int]
  omega
theorem y_al_lt {c d k : Nat} (h : y_onP c d k) : y_al c d k < 400 := by
  have e := y_al_toInt h
  obtain ⟨h1, h2, h3, h4⟩ := h
  omega
theorem y_al_0 (c d : Nat) : y_al c d 0 = c := by
  unfold y_al
  simp
theorem y_on_0 {c : Nat} (hc : c < 400) (d : Nat) : y_onP c d 0 := by
  unfold y_onP
  simp only [Int.natCast_zero, Int.mul_zero, Int.add_zero]
  omega
theorem y_on_le {c d n i : Nat} (hc : c < 400) (hd : d < 8) (h : y_onP c d n) (hi : i ≤ n) : y_onP c d i := by
  unfold y_onP at h ⊢
  obtain ⟨h1, h2⟩ := y_dxs d hd
  rcases h1 with e | e | e <;> rcases h2 with e2 | e2 | e2 <;> rw [e, e2] at h ⊢ <;> omega
theorem y_lin : ∀ s ∈ [(-1 : Int32), 0, 1], ∀ a, a < 20 → ∀ k, k < 20 → (nI a + s * nI k).toInt = (a : Int) + s.toInt * (k : Int) := by decide +kernel
theorem y_smem : ∀ d, d < 8 → y_sx d ∈ [(-1 : Int32), 0, 1] ∧ y_sy d ∈ [(-1 : Int32), 0, 1] := by decide +kernel
theorem y_ckd : ∀ d, d < 8 → ∀ k, k < 20 → (nI k * y_cs d).toInt = (20 * y_dy d + y_dx d) * (k : Int) := by decide +kernel
theorem y_cs1 : ∀ d, d < 8 → (y_cs d).toInt = (20 * y_dy d + y_dx d) ∧ -21 ≤ (y_cs d).toInt ∧ (y_cs d).toInt ≤ 21 := by decide +kernel
theorem y_cs_all {c d k : Nat} (hc : c < 400) (hd : d < 8) (hk : k < 20) (h : y_onP c d k) : nI c + nI k * y_cs d = nI (y_al c d k) := by
  have e1 := y_ckd d hd k hk
  have e2 := y_al_toInt h
  have e3 := y_al_int c d k
  have e4 := y_al_lt h
  rw [z_eq, z_nI (by omega), z_add (by rw [e1, z_nI (by omega)]; omega) (by rw [e1, z_nI (by omega)]; omega), e1, z_nI (by omega)]
  omega
theorem y_cs_step {c d i : Nat} (hc : c < 400) (hd : d < 8) (h0 : y_onP c d i) (h : y_onP c d (i + 1)) : nI (y_al c d i) + y_cs d = nI (y_al c d (i + 1)) := by
  obtain ⟨e1, b1, b2⟩ := y_cs1 d hd
  have a0 := y_al_toInt h0
  have a1 := y_al_toInt h
  have i0 := y_al_int c d i
  have i1 := y_al_int c d (i + 1)
  have l0 := y_al_lt h0
  have l1 := y_al_lt h
  have m : (20 * y_dy d + y_dx d) * ((i + 1 : Nat) : Int) = (20 * y_dy d + y_dx d) * (i : Int) + (20 * y_dy d + y_dx d) := by
    rw [Int.natCast_add, Int.mul_add]
    simp
  rw [z_eq, z_add (by rw [z_nI (by omega)]; omega) (by rw [z_nI (by omega)]; omega), z_nI (by omega), z_nI (by omega), e1]
  omega
def I_dir (S : Nat → Nat → Int32) : Prop := ∀ d, d < 8 → S 1 d = y_sx d ∧ S 2 d = y_sy d
theorem I_dir_fr {S S' : Nat → Nat → Int32} (h : I_dir S) (e : S' 1 = S 1 ∧ S' 2 = S 2) : I_dir S' := by unfold I_dir; rw [e.1, e.2]; exact h
section ZSD
variable {L : Nat} {Dh : Nat → z_Sh} {S : Nat → Nat → Int32} {R : Nat → Nat → Option Nat} {nx sl : Nat}
theorem M33 (hD : I_dir S) {d : Nat} (hd : d < 8) : z_cI 1 33 [.inl (nI d)] (z_mk L Dh S R nx sl) = some (y_cs d, z_mk L Dh S R nx sl) := by
  have h1 : z_in (nI d) 8 = true := z_in_nI hd (by decide)
  have h2 : (nI d).toNatClampNeg = d := z_cl (by omega)
  rw [E33]
  simp only [l_1 h1, l_2 h1, h2, z_bs, (hD d hd).1, (hD d hd).2]
  rfl
theorem M134 {d : Nat} (hd : d < 8) {h : z_H} : z_cI 1 134 [.inr (.inr (some 52)), .inl (nI d)] h = some (y_sx d, h) := by
  rw [E134]
  refine y_8 (P := fun d => (if nI d = (0 : Int32) then (some ((1 : Int32), h)) else (if nI d = (1 : Int32) then (some ((1 : Int32), h)) else (if ¬ nI d = (7 : Int32) then (if nI d = (2 : Int32) then (some ((0 : Int32), h)) else (if ¬ nI d = (6 : Int32) then (some ((-1 : Int32), h)) else (some ((0 : Int32), h)))) else (some ((1 : Int32), h))))) = some (y_sx d, h)) rfl rfl rfl rfl rfl rfl rfl rfl hd
theorem M135 {d : Nat} (hd : d < 8) {h : z_H} : z_cI 1 135 [.inr (.inr (some 52)), .inl (nI d)] h = some (y_sy d, h) := by
  rw [E135]
  refine y_8 (P := fun d => (if nI d = (0 : Int32) then (some ((0 : Int32), h)) else (if ¬ nI d = (4 : Int32) then (if (4 : Int32) ≤ nI d then (some ((-1 : Int32), h)) else (some ((1 : Int32), h))) else (some ((0 : Int32), h)))) = some (y_sy d, h)) rfl rfl rfl rfl rfl rfl rfl rfl hd
theorem M138 {c d k : Nat} (hc : c < 400) (hd : d < 8) (hk : k < 20) : z_cI 2 138 [.inr (.inr (some 52)), .inl (nI c), .inl (nI d), .inl (nI k)] (z_mk L Dh S R nx sl) = some (if y_onb c d k = true then nI (y_al c d k) else -1, z_mk L Dh S R nx sl) := by
  rw [E138]
  simp only [o_52, z_bs, M134 hd, M135 hd]
  rw [(z_cd c hc).2, (z_cd c hc).1]
  have ex := y_lin (y_sx d) (y_smem d hd).1 (c % 20) (by omega) k hk
  have ey := y_lin (y_sy d) (y_smem d hd).2 (c / 20) (by omega) k hk
  rw [(y_sxI d hd).1] at ex
  rw [(y_sxI d hd).2] at ey
  have e0 : (0 : Int32).toInt = 0 := rfl
  have e19 : (19 : Int32).toInt = 19 := rfl
  have hcs := y_al_int c d k
  have hal : y_onP c d k → _ := fun h => y_al_toInt h
  have hlt : y_onP c d k → y_al c d k < 400 := fun h => y_al_lt h
  generalize hX : nI (c % 20) + y_sx d * nI k = X at ex ⊢
  generalize hY : nI (c / 20) + y_sy d * nI k = Y at ey ⊢
  by_cases c1 : X < 0
  · rw [if_pos c1, if_neg (fun q => by have q := y_on_iff.mp q; have := z_lt.mp c1; have := q.1; omega)]
  · rw [if_neg c1]
    by_cases c2 : 19 < X
    · rw [if_pos c2, if_neg (fun q => by have q := y_on_iff.mp q; have := z_lt.mp c2; have := q.2.1; omega)]
    · rw [if_neg c2]
      by_cases c3 : Y < 0
      · rw [if_pos c3, if_neg (fun q => by have q := y_on_iff.mp q; have := z_lt.mp c3; have := q.2.2.1; omega)]
      · rw [if_neg c3]
        by_cases c4 : Y ≤ 19
        · have a1 := z_le.mp (Int32.not_lt.mp c1)
          have a2 := z_le.mp (Int32.not_lt.mp c2)
          have a3 := z_le.mp (Int32.not_lt.mp c3)
          have a4 := z_le.mp c4
          have on : y_onP c d k := ⟨by omega, by omega, by omega, by omega⟩
          rw [if_pos c4, if_pos (y_on_iff.mpr on)]
          have e := hal on
          have l := hlt on
          have e20 : (20 : Int32).toInt = 20 := rfl
          have my : ((20 : Int32) * Y).toInt = 20 * Y.toInt := by rw [z_mul (by rw [e20]; omega) (by rw [e20]; omega), e20]
          have : (20 : Int32) * Y + X = nI (y_al c d k) := by
            rw [z_eq, z_add (by omega) (by omega), z_nI (by omega)]
            omega
          rw [this]
        · rw [if_neg c4, if_neg (fun q => by have q := y_on_iff.mp q; have := z_lt.mp (Int32.not_le.mp c4); have := q.2.2.2; omega)]
theorem M124 {d : Int32} : z_cI 1 124 [.inl d] (z_mk L Dh S R nx sl) = some (if d < 0 ∨ 8 ≤ d then 0 else 1, z_mk L Dh S R nx sl) := by
  rw [E124]
  simp only [n_1, z_bs]
  by_cases c1 : d < 0
  · rw [if_pos c1, if_pos (Or.inl c1)]
  · rw [if_neg c1]
    by_cases c2 : (8 : Int32) ≤ d
    · rw [if_pos c2, if_pos (Or.inr c2)]
    · rw [if_neg c2, if_neg (fun q => q.elim c1 c2)]
end ZSD

