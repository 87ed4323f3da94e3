def A_0 (a : Nat) : Bool := decide (a ∈ [7, 86])
def K_0 (_ : Nat) : Bool := false
section ZRW
variable {L : Nat} {Dh : Nat → z_Sh} {S : Nat → Nat → Int32} {R : Nat → Nat → Option Nat} {nx sl : Nat}
theorem M105 {a b : Int32} : z_cI 3 105 [.inr (.inr (some 6)), .inl a, .inl b] (z_mk L Dh S R nx sl) = if a < 1 ∨ b < 1 then some (-4, z_mk L Dh (z_no 7 S (-4)) R nx sl) else if 999 < a ∨ 99 < b then some (-6, z_mk L Dh (z_no 7 S (-6)) R nx sl) else some (z_cutU (a * 10) b, z_mk L Dh S R nx sl) := by
  rw [E105]
  simp only [z_bs, M122 z_code4, M122 z_code6, o_6, M127]
  by_cases c1 : a < 1
  · simp only [c1, Int32.not_le.mpr c1, true_or, or_true, or_self, false_or, or_false, not_true, not_false_eq_true, Classical.not_not, z_10, z_iT, z_iF]
  · skip
    by_cases c2 : b < 1
    · simp only [c1, Int32.not_lt.mp c1, c2, Int32.not_le.mpr c2, true_or, or_true, or_self, false_or, or_false, not_true, not_false_eq_true, Classical.not_not, z_10, z_iT, z_iF]
    · skip
      by_cases c3 : 999 < a
      · simp only [c1, Int32.not_lt.mp c1, c2, Int32.not_lt.mp c2, c3, Int32.not_le.mpr c3, true_or, or_true, or_self, false_or, or_false, not_true, not_false_eq_true, Classical.not_not, z_10, z_iT, z_iF]
      · skip
        by_cases c4 : 99 < b
        · simp only [c1, Int32.not_lt.mp c1, c2, Int32.not_lt.mp c2, c3, Int32.not_lt.mp c3, c4, Int32.not_le.mpr c4, true_or, or_true, or_self, false_or, or_false, not_true, not_false_eq_true, Classical.not_not, z_10, z_iT, z_iF]
        · skip
          simp only [c1, Int32.not_lt.mp c1, c2, Int32.not_lt.mp c2, c3, Int32.not_lt.mp c3, c4, Int32.not_lt.mp c4, true_or, or_true, or_self, false_or, or_false, not_true, not_false_eq_true, Classical.not_not, z_10, z_iT, z_iF]
theorem M187 {a b : Int32} : z_cI 2 187 [.inr (.inr (some 52)), .inl a, .inl b] (z_mk L Dh S R nx sl) = if a < 1 ∨ b < 1 then some (-4, z_mk L Dh (z_no 86 S (-4)) R nx sl) else if 999 < a ∨ 99 < b then some (-6, z_mk L Dh (z_no 86 S (-6)) R nx sl) else some (z_cutU (a * 10) b, z_mk L Dh S R nx sl) := by
  rw [E187]
  simp only [z_bs, M131 z_code4, M131 z_code6, o_52]
  by_cases c1 : a < 1
  · simp only [c1, Int32.not_le.mpr c1, true_or, or_true, or_self, false_or, or_false, not_true, not_false_eq_true, Classical.not_not, z_10, z_iT, z_iF]
  · skip
    by_cases c2 : b < 1
    · simp only [c1, Int32.not_lt.mp c1, c2, Int32.not_le.mpr c2, true_or, or_true, or_self, false_or, or_false, not_true, not_false_eq_true, Classical.not_not, z_10, z_iT, z_iF]
    · skip
      by_cases c3 : 999 < a
      · simp only [c1, Int32.not_lt.mp c1, c2, Int32.not_lt.mp c2, c3, Int32.not_le.mpr c3, true_or, or_true, or_self, false_or, or_false, not_true, not_false_eq_true, Classical.not_not, z_10, z_iT, z_iF]
      · skip
        by_cases c4 : 99 < b
        · simp only [c1, Int32.not_lt.mp c1, c2, Int32.not_lt.mp c2, c3, Int32.not_lt.mp c3, c4, Int32.not_le.mpr c4, true_or, or_true, or_self, false_or, or_false, not_true, not_false_eq_true, Classical.not_not, z_10, z_iT, z_iF]
        · skip
          simp only [c1, Int32.not_lt.mp c1, c2, Int32.not_lt.mp c2, c3, Int32.not_lt.mp c3, c4, Int32.not_lt.mp c4, true_or, or_true, or_self, false_or, or_false, not_true, not_false_eq_true, Classical.not_not, z_10, z_iT, z_iF]
          have hb : 1 ≤ b.toInt := z_le.mp (Int32.not_lt.mp c2)
          have hb0 : ¬ b = 0 := fun q => by rw [q] at hb; exact absurd hb (by decide)
          simp only [hb0, z_iF]
          rw [z_cutU_pos hb]
theorem S_bags (h_I_ref : I_ref S) (a b : Int32) : z_R2 (fun h => z_cI 3 105 [.inr (.inr (some 6)), .inl a, .inl b] h) (fun h => z_cI 2 187 [.inr (.inr (some 52)), .inl a, .inl b] h) L Dh S R nx sl A_0 K_0 (fun S => I_ref S) := by
  by_cases d1 : a < 1 ∨ b < 1
  · refine z_R2_no z_code4 rfl rfl h_I_ref ?_ ?_ (z_no_ref h_I_ref z_code4)
    · show z_cI 3 105 _ _ = _
      rw [M105 , if_pos d1]
    · show z_cI 2 187 _ _ = _
      rw [M187 (S := z_no 7 S (-4)) , if_pos d1]
  · skip
    by_cases d2 : 999 < a ∨ 99 < b
    · refine z_R2_no z_code6 rfl rfl h_I_ref ?_ ?_ (z_no_ref h_I_ref z_code6)
      · show z_cI 3 105 _ _ = _
        rw [M105 , if_neg d1, if_pos d2]
      · show z_cI 2 187 _ _ = _
        rw [M187 (S := z_no 7 S (-6)) , if_neg d1, if_pos d2]
    · skip
      refine z_R2_q (r := z_cutU (a * 10) b) ?_ ?_ h_I_ref
      · show z_cI 3 105 _ _ = _
        rw [M105, if_neg d1, if_neg d2]
      · show z_cI 2 187 _ _ = _
        rw [M187, if_neg d1, if_neg d2]
theorem z_cut10 (n : Int32) : z_cutU n 10 = (n + 9) / 10 := by
  unfold z_cutU
  rw [if_pos (by decide)]
  have : n + 10 - 1 = n + 9 := by
    have e : (10 : Int32) = 9 + 1 := by decide
    rw [e, ← Int32.add_assoc, Int32.add_sub_cancel]
  rw [this]
theorem M106 {a b e f : Int32} : z_cI 3 106 [.inr (.inr (some 6)), .inl a, .inl b, .inl e, .inl f] (z_mk L Dh S R nx sl) = if a < 0 ∨ b < 1 ∨ e < 0 ∨ f < 0 then some (-4, z_mk L Dh (z_no 7 S (-4)) R nx sl) else if 99 < a ∨ 9 < b ∨ 999 < e ∨ 999 < f then some (-6, z_mk L Dh (z_no 7 S (-6)) R nx sl) else some (if a * 30 / b ≤ e + f + z_cutU (e + f) 10 then 0 else 1, z_mk L Dh S R nx sl) := by
  rw [E106]
  simp only [z_bs, M122 z_code4, M122 z_code6, o_6, M127]
  by_cases c1 : a < 0
  · simp only [c1, Int32.not_le.mpr c1, true_or, or_true, or_self, false_or, or_false, not_true, not_false_eq_true, Classical.not_not, z_10, z_iT, z_iF]
  · skip
    by_cases c2 : b < 1
    · simp only [c1, Int32.not_lt.mp c1, c2, Int32.not_le.mpr c2, true_or, or_true, or_self, false_or, or_false, not_true, not_false_eq_true, Classical.not_not, z_10, z_iT, z_iF]
    · skip
      by_cases c3 : e < 0
      · simp only [c1, Int32.not_lt.mp c1, c2, Int32.not_lt.mp c2, c3, Int32.not_le.mpr c3, true_or, or_true, or_self, false_or, or_false, not_true, not_false_eq_true, Classical.not_not, z_10, z_iT, z_iF]
      · skip
        by_cases c4 : f < 0
        · simp only [c1, Int32.not_lt.mp c1, c2, Int32.not_lt.mp c2, c3, Int32.not_lt.mp c3, c4, Int32.not_le.mpr c4, true_or, or_true, or_self, false_or, or_false, not_true, not_false_eq_true, Classical.not_not, z_10, z_iT, z_iF]
        · skip
          by_cases c5 : 99 < a
          · simp only [c1, Int32.not_lt.mp c1, c2, Int32.not_lt.mp c2, c3, Int32.not_lt.mp c3, c4, Int32.not_lt.mp c4, c5, Int32.not_le.mpr c5, true_or, or_true, or_self, false_or, or_false, not_true, not_false_eq_true, Classical.not_not, z_10, z_iT, z_iF]
          · skip
            by_cases c6 : 9 < b
            · simp only [c1, Int32.not_lt.mp c1, c2, Int32.not_lt.mp c2, c3, Int32.not_lt.mp c3, c4, Int32.not_lt.mp c4, c5, Int32.not_lt.mp c5, c6, Int32.not_le.mpr c6, true_or, or_true, or_self, false_or, or_false, not_true, not_false_eq_true, Classical.not_not, z_10, z_iT, z_iF]
            · skip
              by_cases c7 : 999 < e
              · simp only [c1, Int32.not_lt.mp c1, c2, Int32.not_lt.mp c2, c3, Int32.not_lt.mp c3, c4, Int32.not_lt.mp c4, c5, Int32.not_lt.mp c5, c6, Int32.not_lt.mp c6, c7, Int32.not_le.mpr c7, true_or, or_true, or_self, false_or, or_false, not_true, not_false_eq_true, Classical.not_not, z_10, z_iT, z_iF]
              · skip
                by_cases c8 : 999 < f
                · simp only [c1, Int32.not_lt.mp c1, c2, Int32.not_lt.mp c2, c3, Int32.not_lt.mp c3, c4, Int32.not_lt.mp c4, c5, Int32.not_lt.mp c5, c6, Int32.not_lt.mp c6, c7, Int32.not_lt.mp c7, c8, Int32.not_le.mpr c8, true_or, or_true, or_self, false_or, or_false, not_true, not_false_eq_true, Classical.not_not, z_10, z_iT, z_iF]
                · skip
                  simp only [c1, Int32.not_lt.mp c1, c2, Int32.not_lt.mp c2, c3, Int32.not_lt.mp c3, c4, Int32.not_lt.mp c4, c5, Int32.not_lt.mp c5, c6, Int32.not_lt.mp c6, c7, Int32.not_lt.mp c7, c8, Int32.not_lt.mp c8, true_or, or_true, or_self, false_or, or_false, not_true, not_false_eq_true, Classical.not_not, z_10, z_iT, z_iF]
                  have hb : 1 ≤ b.toInt := z_le.mp (Int32.not_lt.mp c2)
                  have hb0 : ¬ b = 0 := fun q => by rw [q] at hb; exact absurd hb (by decide)
                  simp only [hb0, z_iF]
                  by_cases d : a * 30 / b ≤ e + f + z_cutU (e + f) 10
                  · rw [if_pos d, if_pos d]
                  · rw [if_neg d, if_neg d]
theorem M188 {a b e f : Int32} : z_cI 2 188 [.inr (.inr (some 52)), .inl a, .inl b, .inl e, .inl f] (z_mk L Dh S R nx sl) = if a < 0 ∨ b < 1 ∨ e < 0 ∨ f < 0 then some (-4, z_mk L Dh (z_no 86 S (-4)) R nx sl) else if 99 < a ∨ 9 < b ∨ 999 < e ∨ 999 < f then some (-6, z_mk L Dh (z_no 86 S (-6)) R nx sl) else some (if a * 30 / b ≤ e + f + z_cutU (e + f) 10 then 0 else 1, z_mk L Dh S R nx sl) := by
  rw [E188]
  simp only [z_bs, M131 z_code4, M131 z_code6, o_52]
  by_cases c1 : a < 0
  · simp only [c1, Int32.not_le.mpr c1, true_or, or_true, or_self, false_or, or_false, not_true, not_false_eq_true, Classical.not_not, z_10, z_iT, z_iF]
  · skip
    by_cases c2 : b < 1
    · simp only [c1, Int32.not_lt.mp c1, c2, Int32.not_le.mpr c2, true_or, or_true, or_self, false_or, or_false, not_true, not_false_eq_true, Classical.not_not, z_10, z_iT, z_iF]
    · skip
      by_cases c3 : e < 0
      · simp only [c1, Int32.not_lt.mp c1, c2, Int32.not_lt.mp c2, c3, Int32.not_le.mpr c3, true_or, or_true, or_self, false_or, or_false, not_true, not_false_eq_true, Classical.not_not, z_10, z_iT, z_iF]
      · skip
        by_cases c4 : f < 0
        · simp only [c1, Int32.not_lt.mp c1, c2, Int32.not_lt.mp c2, c3, Int32.not_lt.mp c3, c4, Int32.not_le.mpr c4, true_or, or_true, or_self, false_or, or_false, not_true, not_false_eq_true, Classical.not_not, z_10, z_iT, z_iF]
        · skip
          by_cases c5 : 99 < a
          · simp only [c1, Int32.not_lt.mp c1, c2, Int32.not_lt.mp c2, c3, Int32.not_lt.mp c3, c4, Int32.not_lt.mp c4, c5, Int32.not_le.mpr c5, true_or, or_true, or_self, false_or, or_false, not_true, not_false_eq_true, Classical.not_not, z_10, z_iT, z_iF]
          · skip
            by_cases c6 : 9 < b
            · simp only [c1, Int32.not_lt.mp c1, c2, Int32.not_lt.mp c2, c3, Int32.not_lt.mp c3, c4, Int32.not_lt.mp c4, c5, Int32.not_lt.mp c5, c6, Int32.not_le.mpr c6, true_or, or_true, or_self, false_or, or_false, not_true, not_false_eq_true, Classical.not_not, z_10, z_iT, z_iF]
            · skip
              by_cases c7 : 999 < e
              · simp only [c1, Int32.not_lt.mp c1, c2, Int32.not_lt.mp c2, c3, Int32.not_lt.mp c3, c4, Int32.not_lt.mp c4, c5, Int32.not_lt.mp c5, c6, Int32.not_lt.mp c6, c7, Int32.not_le.mpr c7, true_or, or_true, or_self, false_or, or_false, not_true, not_false_eq_true, Classical.not_not, z_10, z_iT, z_iF]
              · skip
                by_cases c8 : 999 < f
                · simp only [c1, Int32.not_lt.mp c1, c2, Int32.not_lt.mp c2, c3, Int32.not_lt.mp c3, c4, Int32.not_lt.mp c4, c5, Int32.not_lt.mp c5, c6, Int32.not_lt.mp c6, c7, Int32.not_lt.mp c7, c8, Int32.not_le.mpr c8, true_or, or_true, or_self, false_or, or_false, not_true, not_false_eq_true, Classical.not_not, z_10, z_iT, z_iF]
                · skip
                  simp only [c1, Int32.not_lt.mp c1, c2, Int32.not_lt.mp c2, c3, Int32.not_lt.mp c3, c4, Int32.not_lt.mp c4, c5, Int32.not_lt.mp c5, c6, Int32.not_lt.mp c6, c7, Int32.not_lt.mp c7, c8, Int32.not_lt.mp c8, true_or, or_true, or_self, false_or, or_false, not_true, not_false_eq_true, Classical.not_not, z_10, z_iT, z_iF]
                  have hb : 1 ≤ b.toInt := z_le.mp (Int32.not_lt.mp c2)
                  have hb0 : ¬ b = 0 := fun q => by rw [q] at hb; exact absurd hb (by decide)
                  simp only [hb0, z_iF]
                  rw [z_cut10]
                  by_cases d : a * 30 / b ≤ e + f + (e + f + 9) / 10
                  · rw [if_pos d, if_pos d]
                  · rw [if_neg d, if_neg d]
theorem S_fire (h_I_ref : I_ref S) (a b e f : Int32) : z_R2 (fun h => z_cI 3 106 [.inr (.inr (some 6)), .inl a, .inl b, .inl e, .inl f] h) (fun h => z_cI 2 188 [.inr (.inr (some 52)), .inl a, .inl b, .inl e, .inl f] h) L Dh S R nx sl A_0 K_0 (fun S => I_ref S) := by
  by_cases d1 : a < 0 ∨ b < 1 ∨ e < 0 ∨ f < 0
  · refine z_R2_no z_code4 rfl rfl h_I_ref ?_ ?_ (z_no_ref h_I_ref z_code4)
    · show z_cI 3 106 _ _ = _
      rw [M106 , if_pos d1]
    · show z_cI 2 188 _ _ = _
      rw [M188 (S := z_no 7 S (-4)) , if_pos d1]
  · skip
    by_cases d2 : 99 < a ∨ 9 < b ∨ 999 < e ∨ 999 < f
    · refine z_R2_no z_code6 rfl rfl h_I_ref ?_ ?_ (z_no_ref h_I_ref z_code6)
      · show z_cI 3 106 _ _ = _
        rw [M106 , if_neg d1, if_pos d2]
      · show z_cI 2 188 _ _ = _
        rw [M188 (S := z_no 7 S (-6)) , if_neg d1, if_pos d2]
    · skip
      refine z_R2_q (r := if a * 30 / b ≤ e + f + z_cutU (e + f) 10 then 0 else 1) ?_ ?_ h_I_ref
      · show z_cI 3 106 _ _ = _
        rw [M106, if_neg d1, if_neg d2]
      · show z_cI 2 188 _ _ = _
        rw [M188, if_neg d1, if_neg d2]
def A_str (a : Nat) : Bool := decide (a ∈ [7, 8, 86])
def K_str (k : Nat) : Bool := decide (k ∈ [11])
def I_str (S : Nat → Nat → Int32) : Prop := S 52 11 = S 8 4 ∧ 1 ≤ (S 8 4).toInt ∧ (S 8 4).toInt ≤ 20
theorem I_str_fr {S S' : Nat → Nat → Int32} (h : I_str S) (e : S' 8 4 = S 8 4 ∧ S' 52 11 = S 52 11) : I_str S' := by unfold I_str; rw [e.1, e.2]; exact h
theorem z_no_str {c : Int32} (h : I_str S) : I_str (z_no 86 (z_no 7 S c) c) := I_str_fr h ⟨rfl, rfl⟩
theorem M89 {a : Int32} : z_cI 2 89 [.inr (.inr (some 6)), .inl a] (z_mk L Dh S R nx sl) = if a < 1 then some (-4, z_mk L Dh (z_no 7 S (-4)) R nx sl) else if 20 < a then some (-6, z_mk L Dh (z_no 7 S (-6)) R nx sl) else some (S 8 4, z_mk L Dh (z_ups S 8 4 a) R nx sl) := by
  rw [E89]
  simp only [z_bs, M122 z_code4, M122 z_code6, o_6, g_6_1, g_8_4, p_8_4]
  by_cases c1 : a < 1
  · simp only [c1, Int32.not_le.mpr c1, true_or, or_true, or_self, false_or, or_false, not_true, not_false_eq_true, Classical.not_not, z_10, z_iT, z_iF]
  · skip
    by_cases c2 : 20 < a
    · simp only [c1, Int32.not_lt.mp c1, c2, Int32.not_le.mpr c2, true_or, or_true, or_self, false_or, or_false, not_true, not_false_eq_true, Classical.not_not, z_10, z_iT, z_iF]
    · skip
      simp only [c1, Int32.not_lt.mp c1, c2, Int32.not_lt.mp c2, true_or, or_true, or_self, false_or, or_false, not_true, not_false_eq_true, Classical.not_not, z_10, z_iT, z_iF]
theorem M151 {a : Int32} : z_cI 2 151 [.inr (.inr (some 52)), .inl a] (z_mk L Dh S R nx sl) = if a < 1 then some (-4, z_mk L Dh (z_no 86 S (-4)) R nx sl) else if 20 < a then some (-6, z_mk L Dh (z_no 86 S (-6)) R nx sl) else some (S 52 11, z_mk L Dh (z_ups S 52 11 a) R nx sl) := by
  rw [E151]
  simp only [z_bs, M131 z_code4, M131 z_code6, o_52, g_52_11, p_52_11]
  by_cases c1 : a < 1
  · simp only [c1, Int32.not_le.mpr c1, true_or, or_true, or_self, false_or, or_false, not_true, not_false_eq_true, Classical.not_not, z_10, z_iT, z_iF]
  · skip
    by_cases c2 : 20 < a
    · simp only [c1, Int32.not_lt.mp c1, c2, Int32.not_le.mpr c2, true_or, or_true, or_self, false_or, or_false, not_true, not_false_eq_true, Classical.not_not, z_10, z_iT, z_iF]
    · skip
      simp only [c1, Int32.not_lt.mp c1, c2, Int32.not_lt.mp c2, true_or, or_true, or_self, false_or, or_false, not_true, not_false_eq_true, Classical.not_not, z_10, z_iT, z_iF]
theorem S_stride (h_I_ref : I_ref S) (h_I_str : I_str S) (a : Int32) : z_R2 (fun h => z_cI 2 89 [.inr (.inr (some 6)), .inl a] h) (fun h => z_cI 2 151 [.inr (.inr (some 52)), .inl a] h) L Dh S R nx sl A_str K_str (fun S => I_ref S ∧ I_str S) := by
  by_cases d1 : a < 1
  · refine z_R2_no z_code4 rfl rfl h_I_ref ?_ ?_ ⟨z_no_ref h_I_ref z_code4, z_no_str h_I_str⟩
    · show z_cI 2 89 _ _ = _
      rw [M89 , if_pos d1]
    · show z_cI 2 151 _ _ = _
      rw [M151 (S := z_no 7 S (-4)) , if_pos d1]
  · skip
    by_cases d2 : 20 < a
    · refine z_R2_no z_code6 rfl rfl h_I_ref ?_ ?_ ⟨z_no_ref h_I_ref z_code6, z_no_str h_I_str⟩
      · show z_cI 2 89 _ _ = _
        rw [M89 , if_neg d1, if_pos d2]
      · show z_cI 2 151 _ _ = _
        rw [M151 (S := z_no 7 S (-6)) , if_neg d1, if_pos d2]
    · skip
      refine ⟨S 8 4, z_ups S 8 4 a, z_ups (z_ups S 8 4 a) 52 11 a, ?_, ?_, z_fr_upm (z_fr_ups z_fr_id rfl (by decide)) rfl, I_ref_fr h_I_ref ⟨rfl, rfl⟩, ?_⟩
      · show z_cI 2 89 _ _ = _
        rw [M89, if_neg d1, if_neg d2]
      · show z_cI 2 151 _ _ = _
        have e : z_ups S 8 4 a 52 11 = S 8 4 := h_I_str.1
        rw [M151, if_neg d1, if_neg d2, e]
      · exact ⟨rfl, z_le.mp (Int32.not_lt.mp d1), z_le.mp (Int32.not_lt.mp d2)⟩
def A_mks (a : Nat) : Bool := decide (a ∈ [7, 39, 77, 86])
def I_mks (S : Nat → Nat → Int32) : Prop := ∀ i, i < 8 → S 39 i = S 77 i ∧ -1 ≤ (S 39 i).toInt ∧ (S 39 i).toInt ≤ 99999
theorem I_mks_fr {S S' : Nat → Nat → Int32} (h : I_mks S) (e : S' 39 = S 39 ∧ S' 77 = S 77) : I_mks S' := by unfold I_mks; rw [e.1, e.2]; exact h
theorem z_no_mks {c : Int32} (h : I_mks S) : I_mks (z_no 86 (z_no 7 S c) c) := I_mks_fr h ⟨rfl, rfl⟩
theorem M7 {i : Nat} (hi : i < 8) {x : Int32} : z_cI 1 7 [.inr (.inr (some 38)), .inl (nI i), .inl x] (z_mk L Dh S R nx sl) = some (S 39 i, z_mk L Dh (z_ups S 39 i x) R nx sl) := by
  have h1 : z_in (nI i) 8 = true := z_in_nI hi (by decide)
  have h2 : (nI i).toNatClampNeg = i := z_cl (by omega)
  rw [E7]
  simp only [g_38_0, z_bs, l_39 h1, s_39 h1, h2]
theorem M111 {i : Nat} (hi : i < 8) {x : Int32} (h1 : ¬ x < -1) (h2 : ¬ 99999 < x) : z_cI 2 111 [.inr (.inr (some 6)), .inl (nI i), .inl x] (z_mk L Dh S R nx sl) = some (S 39 i, z_mk L Dh (z_ups S 39 i x) R nx sl) := by
  have e1 : ¬ nI i < 0 := nI_pos (by omega)
  have e2 : nI i < 8 := nI_lt (b := 8) hi (by decide)
  rw [E111]
  simp only [e1, e2, z_iT, z_iF, Int32.not_lt.mp h1, Int32.not_lt.mp h2, g_6_6, o_38, z_bs, M7 hi]
theorem M197 {i : Nat} (hi : i < 8) {x : Int32} (h1 : ¬ x < -1) (h2 : ¬ 99999 < x) : z_cI 2 197 [.inr (.inr (some 52)), .inl (nI i), .inl x] (z_mk L Dh S R nx sl) = some (S 77 i, z_mk L Dh (z_ups S 77 i x) R nx sl) := by
  have e1 : ¬ nI i < 0 := nI_pos (by omega)
  have e2 : nI i ≤ 7 := nI_le (b := 7) (by omega) (by decide)
  have h3 : z_in (nI i) 8 = true := z_in_nI hi (by decide)
  have h4 : (nI i).toNatClampNeg = i := z_cl (by omega)
  rw [E197]
  simp only [e1, e2, z_iT, z_iF, Int32.not_lt.mp h1, Int32.not_lt.mp h2, g_52_36, z_bs, l_77 h3, s_77 h3, h4]
theorem S_marks (h_I_ref : I_ref S) (h_I_mks : I_mks S) (w x : Int32) : z_R2 (fun h => z_cI 2 111 [.inr (.inr (some 6)), .inl w, .inl x] h) (fun h => z_cI 2 197 [.inr (.inr (some 52)), .inl w, .inl x] h) L Dh S R nx sl A_mks K_0 (fun S => I_ref S ∧ I_mks S) := by
  have e87 : w ≤ 7 ↔ w < 8 := by
    rw [z_le, z_lt]
    have e7 : (7 : Int32).toInt = 7 := rfl
    have e8 : (8 : Int32).toInt = 8 := rfl
    omega
  by_cases c1 : w < 0
  · refine ⟨1000000001, z_no 7 S (-1), z_no 86 (z_no 7 S (-1)) (-1), ?_, ?_, z_no_fr rfl rfl, z_no_ref h_I_ref z_code1, z_no_mks h_I_mks⟩
    · show z_cI 2 111 _ _ = _
      rw [E111, if_pos c1]
      simp only [o_6, z_bs, M122 z_code1]
      rfl
    · show z_cI 2 197 _ _ = _
      rw [E197, if_pos c1]
      simp only [o_52, z_bs, M131 z_code1]
      rfl
  · by_cases c2 : w < 8
    · by_cases c3 : x < -1
      · refine ⟨1000000004, z_no 7 S (-4), z_no 86 (z_no 7 S (-4)) (-4), ?_, ?_, z_no_fr rfl rfl, z_no_ref h_I_ref z_code4, z_no_mks h_I_mks⟩
        · show z_cI 2 111 _ _ = _
          rw [E111, if_neg c1, if_pos c2, if_neg (Int32.not_le.mpr c3)]
          simp only [o_6, z_bs, M122 z_code4]
          rfl
        · show z_cI 2 197 _ _ = _
          rw [E197, if_neg c1, if_pos (e87.mpr c2), if_neg (Int32.not_le.mpr c3)]
          simp only [o_52, z_bs, M131 z_code4]
          rfl
      · by_cases c4 : (99999 : Int32) < x
        · refine ⟨1000000006, z_no 7 S (-6), z_no 86 (z_no 7 S (-6)) (-6), ?_, ?_, z_no_fr rfl rfl, z_no_ref h_I_ref z_code6, z_no_mks h_I_mks⟩
          · show z_cI 2 111 _ _ = _
            rw [E111, if_neg c1, if_pos c2, if_pos (Int32.not_lt.mp c3), if_neg (Int32.not_le.mpr c4)]
            simp only [o_6, z_bs, M122 z_code6]
            rfl
          · show z_cI 2 197 _ _ = _
            rw [E197, if_neg c1, if_pos (e87.mpr c2), if_pos (Int32.not_lt.mp c3), if_neg (Int32.not_le.mpr c4)]
            simp only [o_52, z_bs, M131 z_code6]
            rfl
        · obtain ⟨i, hi, rfl, -⟩ := z_nat (x := w) (n := 8) (by have := z_le.mp (Int32.not_lt.mp c1); exact this) (by have := z_lt.mp c2; exact this)
          refine ⟨S 39 i, z_ups S 39 i x, z_ups (z_ups S 39 i x) 77 i x, M111 hi c3 c4, ?_, z_fr_ups (z_fr_ups z_fr_id rfl (by decide)) rfl (by decide), I_ref_fr h_I_ref ⟨rfl, rfl⟩, ?_⟩
          · show z_cI 2 197 _ _ = _
            have e : z_ups S 39 i x 77 i = S 39 i := (h_I_mks i hi).1.symm
            rw [M197 hi c3 c4, e]
          · intro j hj
            obtain ⟨k1, k2, k3⟩ := h_I_mks j hj
            simp only [z_upsE, Nat.reduceEqDiff, z_iF, z_iT]
            by_cases hji : j = i
            · rw [if_pos hji, if_pos hji]
              exact ⟨rfl, z_le.mp (Int32.not_lt.mp c3), z_le.mp (Int32.not_lt.mp c4)⟩
            · rw [if_neg hji, if_neg hji]
              exact ⟨k1, k2, k3⟩
    · refine ⟨1000000001, z_no 7 S (-1), z_no 86 (z_no 7 S (-1)) (-1), ?_, ?_, z_no_fr rfl rfl, z_no_ref h_I_ref z_code1, z_no_mks h_I_mks⟩
      · show z_cI 2 111 _ _ = _
        rw [E111, if_neg c1, if_neg c2]
        simp only [o_6, z_bs, M122 z_code1]
        rfl
      · show z_cI 2 197 _ _ = _
        rw [E197, if_neg c1, if_neg (fun q => c2 (e87.mp q))]
        simp only [o_52, z_bs, M131 z_code1]
        rfl
end ZRW
