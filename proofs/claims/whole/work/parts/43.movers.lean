/-! movers: one state for class and model -/
/-- kind, size, start, cue, slip, legs -/
abbrev y_Mv : Type := Nat × Nat × Nat × Nat × Nat × List y_Lg
def y_P (m : y_Mv) (t : Nat) : Nat := y_wk m.2.2.2.2.2 m.2.2.1 (t - m.2.2.2.1)
def y_en (m : y_Mv) : Nat := y_end m.2.2.1 m.2.2.2.2.2
def y_mok (m : y_Mv) : Prop := m.1 ≤ 1 ∧ m.2.1 ≤ 3 ∧ m.2.2.1 < 400 ∧ m.2.2.2.1 ≤ 600 ∧ m.2.2.2.2.1 ≤ 9 ∧ m.2.2.2.2.2.length ≤ 10 ∧ y_okl m.2.2.1 m.2.2.2.2.2
theorem y_P_lt {m : y_Mv} (h : y_mok m) (t : Nat) : y_P m t < 400 := y_wk_lt _ _ h.2.2.1 h.2.2.2.2.2.2
theorem y_P_cue {m : y_Mv} (h : y_mok m) {t : Nat} (ht : t ≤ m.2.2.2.1) : y_P m t = m.2.2.1 := by
  unfold y_P
  rw [show t - m.2.2.2.1 = 0 by omega]
  exact y_wk_0 _ h.2.2.2.2.2.2
/-- the class's cells of a mover -/
def y_cM (Dh : Nat → z_Sh) (R : Nat → Nat → Option Nat) (S : Nat → Nat → Int32) (a : Nat) (m : y_Mv) : Prop :=
  y_Ob Dh R a ∧ S a 0 = nI m.1 ∧ S a 1 = nI m.2.1 ∧ S a 2 = nI m.2.2.1 ∧ S a 3 = nI m.2.2.2.1 ∧ S a 4 = nI m.2.2.2.2.1 ∧ y_lgC a S m.2.2.2.2.2 ∧ S a 6 = nI (y_en m) ∧ (∀ t, t < 601 → S (a + 5) t = nI (y_P m t)) ∧ (m.2.2.2.2.2 = [] → S a 7 = 0) ∧ ∃ F, F ≤ 10000 ∧ S a 7 = nI F ∧ ∀ t, F ≤ t → y_P m t = y_en m
/-- the model's cells of mover i -/
def y_mM (S : Nat → Nat → Int32) (i : Nat) (m : y_Mv) : Prop :=
  S 55 i = nI m.1 ∧ S 56 i = nI m.2.1 ∧ S 57 i = nI m.2.2.1 ∧ S 58 i = nI m.2.2.2.1 ∧ S 59 i = nI m.2.2.2.2.1 ∧ S 60 i = nI m.2.2.2.2.2.length ∧ S 61 i = nI (y_en m) ∧ ∀ k (hk : k < m.2.2.2.2.2.length), S 62 ((i * 10 + k) * 4 + 0) = nI (m.2.2.2.2.2[k]).1 ∧ S 62 ((i * 10 + k) * 4 + 1) = nI (m.2.2.2.2.2[k]).2.1 ∧ S 62 ((i * 10 + k) * 4 + 2) = nI (m.2.2.2.2.2[k]).2.2.1 ∧ S 62 ((i * 10 + k) * 4 + 3) = nI (m.2.2.2.2.2[k]).2.2.2
/-- all movers -/
def J_mov (ms : List y_Mv) (ad : Nat → Nat) (Dh : Nat → z_Sh) (S : Nat → Nat → Int32) (R : Nat → Nat → Option Nat) (nx : Nat) : Prop :=
  ms.length ≤ 12 ∧ S 8 3 = nI ms.length ∧ S 52 2 = nI ms.length ∧ (∀ i (hi : i < ms.length), R 11 i = some (ad i) ∧ ad i + 6 ≤ nx ∧ y_mok ms[i] ∧ y_cM Dh R S (ad i) ms[i] ∧ y_mM S i ms[i]) ∧ (∀ i j, i < j → j < ms.length → ad i + 6 ≤ ad j)
section ZSF
variable {L : Nat} {Dh : Nat → z_Sh} {S : Nat → Nat → Int32} {R : Nat → Nat → Option Nat} {nx sl : Nat}
variable {ms : List y_Mv} {ad : Nat → Nat}
theorem M43 (J : J_mov ms ad Dh S R nx) {x : Int32} : z_cR 1 43 [.inr (.inr (some 8)), .inl x] (z_mk L Dh S R nx sl) = some (if x < 0 ∨ nI ms.length ≤ x then none else R 11 x.toNatClampNeg, z_mk L Dh S R nx sl) := by
  rw [E43]
  simp only [g_8_3, g_8_2, z_bs, J.2.1]
  by_cases c1 : x < 0
  · rw [if_pos c1, if_pos (Or.inl c1)]
  · rw [if_neg c1]
    by_cases c2 : nI ms.length ≤ x
    · rw [if_pos c2, if_pos (Or.inr c2)]
    · rw [if_neg c2, if_neg (fun q => q.elim c1 c2)]
      obtain ⟨j, hj, rfl⟩ := z_plc (by have := J.1; omega) c1 c2
      rw [l_11 (z_in_nI (by have := J.1; omega) (by decide))]
      simp only [z_bs]
theorem M43n (J : J_mov ms ad Dh S R nx) {i : Nat} (hi : i < ms.length) : z_cR 1 43 [.inr (.inr (some 8)), .inl (nI i)] (z_mk L Dh S R nx sl) = some (some (ad i), z_mk L Dh S R nx sl) := by
  have h12 := J.1
  rw [M43 J, if_neg (fun q => q.elim (nI_pos (by omega)) (nI_ge (by omega) (by omega))), z_cl (by omega), (J.2.2.2.1 i hi).1]
theorem M43x (J : J_mov ms ad Dh S R nx) {x : Int32} (hx : x < 0 ∨ nI ms.length ≤ x) : z_cR 1 43 [.inr (.inr (some 8)), .inl x] (z_mk L Dh S R nx sl) = some (none, z_mk L Dh S R nx sl) := by
  rw [M43 J, if_pos hx]
theorem M133 {n : Nat} (hS : S 52 2 = nI n) {x : Int32} : z_cI 1 133 [.inr (.inr (some 52)), .inl x] (z_mk L Dh S R nx sl) = some (if x < 0 ∨ nI n ≤ x then 0 else 1, z_mk L Dh S R nx sl) := by
  rw [E133]
  simp only [g_52_2, z_bs, hS]
  by_cases c1 : x < 0
  · rw [if_pos c1, if_pos (Or.inl c1)]
  · rw [if_neg c1]
    by_cases c2 : nI n ≤ x
    · rw [if_pos c2, if_pos (Or.inr c2)]
    · rw [if_neg c2, if_neg (fun q => q.elim c1 c2)]
/-- where it is: the class -/
theorem M29 {a : Nat} {m : y_Mv} (C : y_cM Dh R S a m) {x : Int32} {t : Nat} (hx : x.toInt ≤ 600) (ht : t = x.toInt.toNat) : z_cI 2 29 [.inr (.inr (some a)), .inl x] (z_mk L Dh S R nx sl) = some (nI (y_P m t), z_mk L Dh S R nx sl) := by
  rw [E29]
  simp only [y_g12 C.1, z_bs, M229, M230]
  have e0 : (0 : Int32).toInt = 0 := rfl
  have e6 : (600 : Int32).toInt = 600 := rfl
  have e : (if (if (0 : Int32) < x then x else 0) < (600 : Int32) then (if (0 : Int32) < x then x else 0) else (600 : Int32)) = nI t := by
    have e1 : (if (0 : Int32) < x then x else 0) = nI t := by
      by_cases c : (0 : Int32) < x
      · rw [if_pos c, z_eq, z_nI (by omega)]
        have := z_lt.mp c
        omega
      · rw [if_neg c, z_eq, z_nI (by omega)]
        have := z_le.mp (Int32.not_lt.mp c)
        omega
    rw [e1]
    by_cases c : nI t < (600 : Int32)
    · rw [if_pos c]
    · rw [if_neg c, z_eq, z_nI (by omega)]
      have := z_le.mp (Int32.not_lt.mp c)
      rw [z_nI (by omega)] at this
      omega
  rw [e, y_l5 C.1 (show t < 601 by omega)]
  simp only [z_bs]
  rw [C.2.2.2.2.2.2.2.2.1 t (by omega)]
theorem y_subI {t l : Nat} (ht : t < 100000) (hl : l < 100000) : (nI t - nI l).toInt = (t : Int) - (l : Int) := by
  rw [z_sub (by rw [z_nI (by omega), z_nI (by omega)]; omega) (by rw [z_nI (by omega), z_nI (by omega)]; omega), z_nI (by omega), z_nI (by omega)]
theorem M29l {a : Nat} {m : y_Mv} (C : y_cM Dh R S a m) {t l : Nat} (ht : t ≤ 600) (hl : l < 100000) : z_cI 2 29 [.inr (.inr (some a)), .inl (nI t - nI l)] (z_mk L Dh S R nx sl) = some (nI (y_P m (t - l)), z_mk L Dh S R nx sl) := by
  have e := y_subI (t := t) (l := l) (by omega) hl
  exact M29 C (by omega) (by omega)
theorem M29n {a : Nat} {m : y_Mv} (C : y_cM Dh R S a m) {t : Nat} (ht : t ≤ 600) : z_cI 2 29 [.inr (.inr (some a)), .inl (nI t)] (z_mk L Dh S R nx sl) = some (nI (y_P m t), z_mk L Dh S R nx sl) := by
  have e := z_nI (i := t) (by omega)
  exact M29 C (by omega) (by omega)
/-- legs of the model -/
theorem y_62 (i k j : Nat) : (nI i * 10 + nI k) * 4 + nI j = nI ((i * 10 + k) * 4 + j) := by
  rw [show (10 : Int32) = nI 10 from rfl, show (4 : Int32) = nI 4 from rfl, z_pl, z_pl]
theorem y_ld62_0 {i k : Nat} (hi : i < 12) (hk : k < 10) : z_ldI (z_mk L Dh S R nx sl) (some 62) ((nI i * 10 + nI k) * 4) = some (S 62 ((i * 10 + k) * 4 + 0)) := by rw [show (nI i * 10 + nI k) * 4 = nI ((i * 10 + k) * 4 + 0) from (Int32.add_zero _).symm.trans (y_62 i k 0), l_62 (z_in_nI (by omega) (by decide)), z_cl (by omega)]
theorem y_st62_0 {i k : Nat} {x : Int32} (hi : i < 12) (hk : k < 10) : z_stI (z_mk L Dh S R nx sl) (some 62) ((nI i * 10 + nI k) * 4) x = some (z_mk L Dh (z_ups S 62 ((i * 10 + k) * 4 + 0) x) R nx sl) := by rw [show (nI i * 10 + nI k) * 4 = nI ((i * 10 + k) * 4 + 0) from (Int32.add_zero _).symm.trans (y_62 i k 0), s_62 (z_in_nI (by omega) (by decide)), z_cl (by omega)]
theorem y_ld62_1 {i k : Nat} (hi : i < 12) (hk : k < 10) : z_ldI (z_mk L Dh S R nx sl) (some 62) ((nI i * 10 + nI k) * 4 + 1) = some (S 62 ((i * 10 + k) * 4 + 1)) := by rw [show (nI i * 10 + nI k) * 4 + 1 = nI ((i * 10 + k) * 4 + 1) from y_62 i k 1, l_62 (z_in_nI (by omega) (by decide)), z_cl (by omega)]
theorem y_st62_1 {i k : Nat} {x : Int32} (hi : i < 12) (hk : k < 10) : z_stI (z_mk L Dh S R nx sl) (some 62) ((nI i * 10 + nI k) * 4 + 1) x = some (z_mk L Dh (z_ups S 62 ((i * 10 + k) * 4 + 1) x) R nx sl) := by rw [show (nI i * 10 + nI k) * 4 + 1 = nI ((i * 10 + k) * 4 + 1) from y_62 i k 1, s_62 (z_in_nI (by omega) (by decide)), z_cl (by omega)]
theorem y_ld62_2 {i k : Nat} (hi : i < 12) (hk : k < 10) : z_ldI (z_mk L Dh S R nx sl) (some 62) ((nI i * 10 + nI k) * 4 + 2) = some (S 62 ((i * 10 + k) * 4 + 2)) := by rw [show (nI i * 10 + nI k) * 4 + 2 = nI ((i * 10 + k) * 4 + 2) from y_62 i k 2, l_62 (z_in_nI (by omega) (by decide)), z_cl (by omega)]
theorem y_st62_2 {i k : Nat} {x : Int32} (hi : i < 12) (hk : k < 10) : z_stI (z_mk L Dh S R nx sl) (some 62) ((nI i * 10 + nI k) * 4 + 2) x = some (z_mk L Dh (z_ups S 62 ((i * 10 + k) * 4 + 2) x) R nx sl) := by rw [show (nI i * 10 + nI k) * 4 + 2 = nI ((i * 10 + k) * 4 + 2) from y_62 i k 2, s_62 (z_in_nI (by omega) (by decide)), z_cl (by omega)]
theorem y_ld62_3 {i k : Nat} (hi : i < 12) (hk : k < 10) : z_ldI (z_mk L Dh S R nx sl) (some 62) ((nI i * 10 + nI k) * 4 + 3) = some (S 62 ((i * 10 + k) * 4 + 3)) := by rw [show (nI i * 10 + nI k) * 4 + 3 = nI ((i * 10 + k) * 4 + 3) from y_62 i k 3, l_62 (z_in_nI (by omega) (by decide)), z_cl (by omega)]
theorem y_st62_3 {i k : Nat} {x : Int32} (hi : i < 12) (hk : k < 10) : z_stI (z_mk L Dh S R nx sl) (some 62) ((nI i * 10 + nI k) * 4 + 3) x = some (z_mk L Dh (z_ups S 62 ((i * 10 + k) * 4 + 3) x) R nx sl) := by rw [show (nI i * 10 + nI k) * 4 + 3 = nI ((i * 10 + k) * 4 + 3) from y_62 i k 3, s_62 (z_in_nI (by omega) (by decide)), z_cl (by omega)]
theorem M144_31 {i : Nat} {lg : List y_Lg} (hi : i < 12) (h10 : lg.length ≤ 10) (h60 : S 60 i = nI lg.length) (h62 : ∀ k (hk : k < lg.length), S 62 ((i * 10 + k) * 4 + 0) = nI (lg[k]).1 ∧ S 62 ((i * 10 + k) * 4 + 1) = nI (lg[k]).2.1 ∧ S 62 ((i * 10 + k) * 4 + 2) = nI (lg[k]).2.2.1 ∧ S 62 ((i * 10 + k) * 4 + 3) = nI (lg[k]).2.2.2) :
  ∀ (r : List y_Lg) (k c l : Nat), lg.drop k = r → k ≤ lg.length → c < 400 → y_okl c r → l < 100000 → L144_31 (some 52) (nI i) (nI l) (nI c) (nI k) (z_mk L Dh S R nx sl) = some (nI (y_wk r c l), z_mk L Dh S R nx sl) := by
  have i1 : z_in (nI i) 12 = true := z_in_nI hi (by decide)
  have i2 : (nI i).toNatClampNeg = i := z_cl (by omega)
  intro r
  induction r with
  | nil =>
    intro k c l hr hkl hc hok hl
    have hk : lg.length ≤ k := List.drop_eq_nil_iff.mp hr
    rw [E144_31]
    simp only [g_52_8, z_bs, l_60 i1, i2, h60]
    rw [if_pos (nI_le hk (by omega))]
    rfl
  | cons g r ih =>
    intro k c l hr hkl hc hok hl
    obtain ⟨hk, hg, hd⟩ := y_drop_cons hr
    obtain ⟨⟨g0, g1, g2, g3, g4, g5, g6⟩, g7⟩ := hok
    have hx := h62 k hk
    rw [hg] at hx
    have m2 : g.2.1 * g.2.2.1 ≤ 19 * 20 := Nat.mul_le_mul g2 g4
    rw [E144_31]
    simp only [g_52_8, g_52_10, z_bs, l_60 i1, i2, h60, o_52, y_ld62_0 hi (show k < 10 by omega), y_ld62_1 hi (show k < 10 by omega), y_ld62_2 hi (show k < 10 by omega), hx.1, hx.2.1, hx.2.2.1]
    rw [if_neg (nI_ge hk (by omega)), show nI g.2.1 * nI g.2.2.1 = nI (g.2.1 * g.2.2.1) from z_pl0 _ _, y_wk_c]
    by_cases c1 : l < g.2.1 * g.2.2.1
    · rw [if_neg (nI_ge c1 (by omega)), if_pos c1, if_neg (nI_ne0 (by omega) (by omega)), pk_div (by omega) (by omega) (by omega)]
      have hq := y_div_lt c1
      rw [M138 hc g0 (by omega), if_pos (y_on_iff.mpr (y_on_le hc g0 g6 (by omega)))]
      simp only [z_bs]
    · rw [if_pos (nI_le (by omega) (by omega)), if_neg c1, M138 hc g0 (by omega), if_pos (y_on_iff.mpr g6), z_nI_sub (by omega)]
      simp only [z_bs, g_52_10, y_ld62_3 hi (show k < 10 by omega), hx.2.2.2]
      by_cases c2 : l - g.2.1 * g.2.2.1 < g.2.2.2
      · rw [if_neg (nI_ge c2 (by omega)), if_pos c2]
      · rw [if_pos (nI_le (by omega) (by omega)), if_neg c2, z_nI_sub (by omega), nI_1]
        exact ih (k + 1) _ _ hd (by omega) (y_al_lt g6) g7 (by omega)
/-- where it is: the model -/
theorem M144 {i : Nat} {m : y_Mv} (hi : i < 12) (hm : y_mok m) (M : y_mM S i m) {t l : Nat} (ht : t ≤ 600) (hl : l ≤ 600) : z_cI 3 144 [.inr (.inr (some 52)), .inl (nI i), .inl (nI t), .inl (nI l)] (z_mk L Dh S R nx sl) = some (nI (y_P m (t - l)), z_mk L Dh S R nx sl) := by
  have i1 : z_in (nI i) 12 = true := z_in_nI hi (by decide)
  have i2 : (nI i).toNatClampNeg = i := z_cl (by omega)
  obtain ⟨-, -, h57, h58, -, h60, -, h62⟩ := M
  obtain ⟨-, -, hst, hcu, -, h10, hok⟩ := hm
  rw [E144]
  simp only [g_52_6, g_52_5, z_bs, l_58 i1, l_57 i1, i2, h57, h58]
  have e1 := y_subI (t := t) (l := m.2.2.2.1) (by omega) (by omega)
  have e2 : (nI t - nI m.2.2.2.1 - nI l).toInt = (t : Int) - (m.2.2.2.1 : Int) - (l : Int) := by
    rw [z_sub (by rw [e1, z_nI (by omega)]; omega) (by rw [e1, z_nI (by omega)]; omega), e1, z_nI (by omega)]
  have e0 : (0 : Int32).toInt = 0 := rfl
  unfold y_P
  by_cases c : (0 : Int32) < nI t - nI m.2.2.2.1 - nI l
  · rw [if_pos c]
    have q := z_lt.mp c
    have e3 : nI t - nI m.2.2.2.1 - nI l = nI (t - l - m.2.2.2.1) := by rw [z_eq, e2, z_nI (by omega)]; omega
    rw [e3]
    exact M144_31 hi h10 h60 h62 _ 0 _ _ rfl (by omega) hst hok (by omega)
  · rw [if_neg c]
    have q := z_le.mp (Int32.not_lt.mp c)
    rw [show t - l - m.2.2.2.1 = 0 by omega, y_wk_0 _ hok]
end ZSF

