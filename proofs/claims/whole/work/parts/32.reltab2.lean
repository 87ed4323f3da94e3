section ZRU
variable {L : Nat} {Dh : Nat → z_Sh} {S : Nat → Nat → Int32} {R : Nat → Nat → Option Nat} {nx sl : Nat}
theorem S_grip (hr : I_ref S) (ht : I_tab S) (g k : Int32) : z_R2 (fun h => z_cI 3 116 [.inr (.inr (some 6)), .inl g, .inl k] h) (fun h => z_cI 2 207 [.inr (.inr (some 52)), .inl g, .inl k] h) L Dh S R nx sl A_tab K_tab (fun S => I_ref S ∧ I_tab S) := by
  obtain ⟨n, p, h1, h2, h3, h4, h5, h6, h7, h8, h9, h10, h11⟩ := id ht
  have hT : ∀ i, i < n → 1 ≤ (S 78 (i * 5 + 2)).toInt ∧ (S 78 (i * 5 + 2)).toInt ≤ 9999 := fun i hi => by
    obtain ⟨-, -, e, -, -, a, b, -⟩ := h10 i hi
    rw [← e]; exact ⟨a, b⟩
  by_cases c1 : g < 0 ∨ 4 ≤ g
  · refine z_R2_no z_code1 rfl rfl hr ?_ ?_ ⟨z_no_ref hr z_code1, z_no_tab ht⟩
    · show z_cI 3 116 _ _ = _
      rw [M116 h1 h3, if_pos c1]
    · show z_cI 2 207 _ _ = _
      rw [M207 (S := z_no 7 S (-1)) h1 h4 hT, if_pos c1]
  · by_cases c2 : k < 0
    · refine z_R2_no z_code4 rfl rfl hr ?_ ?_ ⟨z_no_ref hr z_code4, z_no_tab ht⟩
      · show z_cI 3 116 _ _ = _
        rw [M116 h1 h3, if_neg c1, if_pos c2]
      · show z_cI 2 207 _ _ = _
        rw [M207 (S := z_no 7 S (-4)) h1 h4 hT, if_neg c1, if_pos c2]
    · by_cases c3 : (999 : Int32) < k
      · refine z_R2_no z_code6 rfl rfl hr ?_ ?_ ⟨z_no_ref hr z_code6, z_no_tab ht⟩
        · show z_cI 3 116 _ _ = _
          rw [M116 h1 h3, if_neg c1, if_neg c2, if_pos c3]
        · show z_cI 2 207 _ _ = _
          rw [M207 (S := z_no 7 S (-6)) h1 h4 hT, if_neg c1, if_neg c2, if_pos c3]
      · refine z_R2_q (r := z_cG S n g k) ?_ ?_ ⟨hr, ht⟩
        · show z_cI 3 116 _ _ = _
          rw [M116 h1 h3, if_neg c1, if_neg c2, if_neg c3]
        · show z_cI 2 207 _ _ = _
          have hk : k.toInt ≤ 999 := by
            have := z_le.mp (Int32.not_lt.mp c3)
            exact this
          rw [M207 h1 h4 hT, if_neg c1, if_neg c2, if_neg c3, z_grip_eq h10 hk]
/-- stop -/
theorem M117 {n : Nat} (hn : n ≤ 60) (hS : S 42 6 = nI n) (g v k : Int32) : z_cI 4 117 [.inr (.inr (some 6)), .inl g, .inl v, .inl k] (z_mk L Dh S R nx sl) = if g < 0 ∨ 4 ≤ g then some (-1, z_mk L Dh (z_no 7 S (-1)) R nx sl) else if v < 1 ∨ k < 0 then some (-4, z_mk L Dh (z_no 7 S (-4)) R nx sl) else if 99 < v ∨ 999 < k then some (-6, z_mk L Dh (z_no 7 S (-6)) R nx sl) else some (z_cutU (v * v * 10) (z_cG S n g k), z_mk L Dh S R nx sl) := by
  rw [E117]
  simp only [M125, z_bs, o_6, o_42, g_6_7, M122 z_code1, M122 z_code4, M122 z_code6, M64 hn hS]
  by_cases c1 : g < 0
  · simp only [c1, z_iT, true_or, not_true, z_iF]
  · by_cases c2 : (4 : Int32) ≤ g
    · simp only [c1, c2, z_iT, or_true, not_true, z_iF]
    · simp only [c1, c2, z_iF, or_self, show ¬ (1 : Int32) = 0 by decide, not_false_eq_true, z_iT]
      by_cases c3 : v < 1
      · simp only [c3, true_or, z_iT]
      · by_cases c4 : k < 0
        · simp only [c3, c4, Int32.not_le.mpr c4, or_true, z_iT, z_iF]
        · simp only [c3, c4, Int32.not_lt.mp c4, or_self, z_iT, z_iF]
          by_cases c5 : (99 : Int32) < v
          · simp only [c5, true_or, z_iT]
          · by_cases c6 : (999 : Int32) < k
            · simp only [c5, c6, Int32.not_le.mpr c6, or_true, z_iT, z_iF]
            · simp only [c5, c6, Int32.not_lt.mp c6, or_self, z_iT, z_iF]
              rfl
theorem z_g34 {g : Int32} : g ≤ 3 ↔ ¬ 4 ≤ g := by
  rw [z_le, z_le]
  have e3 : (3 : Int32).toInt = 3 := rfl
  have e4 : (4 : Int32).toInt = 4 := rfl
  omega
theorem M208 {n : Nat} (hn : n ≤ 60) (hS : S 52 39 = nI n) (hT : ∀ i, i < n → 1 ≤ (S 78 (i * 5 + 2)).toInt ∧ (S 78 (i * 5 + 2)).toInt ≤ 9999) (g v k : Int32) : z_cI 3 208 [.inr (.inr (some 52)), .inl g, .inl v, .inl k] (z_mk L Dh S R nx sl) = if g < 0 ∨ 4 ≤ g then some (-1, z_mk L Dh (z_no 86 S (-1)) R nx sl) else if v < 1 ∨ k < 0 then some (-4, z_mk L Dh (z_no 86 S (-4)) R nx sl) else if 99 < v ∨ 999 < k then some (-6, z_mk L Dh (z_no 86 S (-6)) R nx sl) else some (z_cutU (v * v * 10) (z_mG S n g k), z_mk L Dh S R nx sl) := by
  rw [E208]
  simp only [z_bs, o_52, M131 z_code1, M131 z_code4, M131 z_code6, M206 hn hS hT]
  by_cases c1 : g < 0
  · simp only [c1, z_iT, true_or]
  · by_cases c2 : (4 : Int32) ≤ g
    · simp only [c1, z_g34, c2, z_iT, or_true, not_true, z_iF]
    · simp only [c1, z_g34, c2, z_iF, or_self, not_false_eq_true, z_iT]
      by_cases c3 : v < 1
      · simp only [c3, true_or, z_iT]
      · by_cases c4 : k < 0
        · simp only [c3, c4, Int32.not_le.mpr c4, or_true, z_iT, z_iF]
        · simp only [c3, c4, Int32.not_lt.mp c4, or_self, z_iT, z_iF]
          by_cases c5 : (99 : Int32) < v
          · simp only [c5, true_or, z_iT]
          · by_cases c6 : (999 : Int32) < k
            · simp only [c5, c6, Int32.not_le.mpr c6, or_true, z_iT, z_iF]
            · simp only [c5, c6, Int32.not_lt.mp c6, or_self, z_iT, z_iF]
theorem I_tab_T {n : Nat} (h10 : ∀ i, i < n → S 43 i = S 78 (i * 5 + 0) ∧ S 44 i = S 78 (i * 5 + 1) ∧ S 45 i = S 78 (i * 5 + 2) ∧ S 46 i = S 78 (i * 5 + 3) ∧ I_bk (S 47 i) (S 78 (i * 5 + 4)) ∧ 1 ≤ (S 45 i).toInt ∧ (S 45 i).toInt ≤ 9999 ∧ (S 46 i).toInt ≤ (S 42 0).toInt) : ∀ i, i < n → 1 ≤ (S 78 (i * 5 + 2)).toInt ∧ (S 78 (i * 5 + 2)).toInt ≤ 9999 := fun i hi => by
    obtain ⟨-, -, e, -, -, a, b, -⟩ := h10 i hi
    rw [← e]; exact ⟨a, b⟩
theorem S_stop (hr : I_ref S) (ht : I_tab S) (g v k : Int32) : z_R2 (fun h => z_cI 4 117 [.inr (.inr (some 6)), .inl g, .inl v, .inl k] h) (fun h => z_cI 3 208 [.inr (.inr (some 52)), .inl g, .inl v, .inl k] h) L Dh S R nx sl A_tab K_tab (fun S => I_ref S ∧ I_tab S) := by
  obtain ⟨n, p, h1, h2, h3, h4, h5, h6, h7, h8, h9, h10, h11⟩ := id ht
  have hT := I_tab_T h10
  by_cases c1 : g < 0 ∨ 4 ≤ g
  · refine z_R2_no z_code1 rfl rfl hr ?_ ?_ ⟨z_no_ref hr z_code1, z_no_tab ht⟩
    · show z_cI 4 117 _ _ = _
      rw [M117 h1 h3, if_pos c1]
    · show z_cI 3 208 _ _ = _
      rw [M208 (S := z_no 7 S (-1)) h1 h4 hT, if_pos c1]
  · by_cases c2 : v < 1 ∨ k < 0
    · refine z_R2_no z_code4 rfl rfl hr ?_ ?_ ⟨z_no_ref hr z_code4, z_no_tab ht⟩
      · show z_cI 4 117 _ _ = _
        rw [M117 h1 h3, if_neg c1, if_pos c2]
      · show z_cI 3 208 _ _ = _
        rw [M208 (S := z_no 7 S (-4)) h1 h4 hT, if_neg c1, if_pos c2]
    · by_cases c3 : 99 < v ∨ (999 : Int32) < k
      · refine z_R2_no z_code6 rfl rfl hr ?_ ?_ ⟨z_no_ref hr z_code6, z_no_tab ht⟩
        · show z_cI 4 117 _ _ = _
          rw [M117 h1 h3, if_neg c1, if_neg c2, if_pos c3]
        · show z_cI 3 208 _ _ = _
          rw [M208 (S := z_no 7 S (-6)) h1 h4 hT, if_neg c1, if_neg c2, if_pos c3]
      · refine z_R2_q (r := z_cutU (v * v * 10) (z_cG S n g k)) ?_ ?_ ⟨hr, ht⟩
        · show z_cI 4 117 _ _ = _
          rw [M117 h1 h3, if_neg c1, if_neg c2, if_neg c3]
        · show z_cI 3 208 _ _ = _
          have hk : k.toInt ≤ 999 := z_le.mp (Int32.not_lt.mp (fun q => c3 (Or.inr q)))
          rw [M208 h1 h4 hT, if_neg c1, if_neg c2, if_neg c3, z_grip_eq h10 hk]
/-- good -/
theorem z_gd_eq {n : Nat} (h10 : ∀ i, i < n → S 43 i = S 78 (i * 5 + 0) ∧ S 44 i = S 78 (i * 5 + 1) ∧ S 45 i = S 78 (i * 5 + 2) ∧ S 46 i = S 78 (i * 5 + 3) ∧ I_bk (S 47 i) (S 78 (i * 5 + 4)) ∧ 1 ≤ (S 45 i).toInt ∧ (S 45 i).toInt ≤ 9999 ∧ (S 46 i).toInt ≤ (S 42 0).toInt) {a b c k : Int32} (hk : k.toInt ≤ 999) : z_good (S 43) (S 44) (S 45) (S 46) (S 47) n a b c k = z_gd (z_mG S n) a b c k := by
  unfold z_good z_gd
  rw [← z_grip_eq h10 hk]
  rfl
theorem M119 {n p : Nat} (hn : n ≤ 60) (hS : S 42 6 = nI n) (hp : p ≤ 20) (hP : S 42 11 = nI p) (i k : Int32) : z_cI 5 119 [.inr (.inr (some 6)), .inl i, .inl k] (z_mk L Dh S R nx sl) = if i < 0 ∨ nI p ≤ i then some (-1, z_mk L Dh (z_no 7 S (-1)) R nx sl) else if k < 0 then some (-4, z_mk L Dh (z_no 7 S (-4)) R nx sl) else if 999 < k then some (-6, z_mk L Dh (z_no 7 S (-6)) R nx sl) else some (if z_good (S 43) (S 44) (S 45) (S 46) (S 47) n (S 48 i.toNatClampNeg) (S 49 i.toNatClampNeg) (S 50 i.toNatClampNeg) k = true then 1 else 0, z_mk L Dh S R nx sl) := by
  rw [E119]
  simp only [z_bs, o_6, o_42, g_6_7, g_42_11, M122 z_code1, M122 z_code4, M122 z_code6, hP]
  by_cases c1 : i < 0
  · simp only [c1, z_iT, true_or]
  · by_cases c2 : nI p ≤ i
    · simp only [c1, c2, Int32.not_lt.mpr c2, z_iT, or_true, z_iF]
    · simp only [c1, c2, Int32.not_le.mp c2, z_iF, or_self, z_iT]
      by_cases c3 : k < 0
      · simp only [c3, Int32.not_le.mpr c3, z_iT, z_iF]
      · simp only [c3, Int32.not_lt.mp c3, z_iT, z_iF]
        by_cases c4 : (999 : Int32) < k
        · simp only [c4, Int32.not_le.mpr c4, z_iT, z_iF]
        · simp only [c4, Int32.not_lt.mp c4, z_iT, z_iF]
          obtain ⟨j, hj, rfl, -⟩ := z_nat (x := i) (n := p) (by have := z_le.mp (Int32.not_lt.mp c1); exact this) (by have := z_lt.mp (Int32.not_le.mp c2); rw [z_nI (by omega)] at this; exact this)
          rw [M66 hn hS (by omega), z_cl (by omega)]
          simp only [z_bs]
          by_cases c5 : z_good (S 43) (S 44) (S 45) (S 46) (S 47) n (S 48 j) (S 49 j) (S 50 j) k = true
          · rw [if_pos c5, if_neg (by decide)]
          · rw [if_neg c5, if_pos rfl]
theorem M211 {n p : Nat} (hn : n ≤ 60) (hS : S 52 39 = nI n) (hT : ∀ i, i < n → 1 ≤ (S 78 (i * 5 + 2)).toInt ∧ (S 78 (i * 5 + 2)).toInt ≤ 9999) (hp : p ≤ 20) (hP : S 52 41 = nI p) (i k : Int32) : z_cI 4 211 [.inr (.inr (some 52)), .inl i, .inl k] (z_mk L Dh S R nx sl) = if i < 0 ∨ nI p ≤ i then some (-1, z_mk L Dh (z_no 86 S (-1)) R nx sl) else if k < 0 then some (-4, z_mk L Dh (z_no 86 S (-4)) R nx sl) else if 999 < k then some (-6, z_mk L Dh (z_no 86 S (-6)) R nx sl) else some (if z_gd (z_mG S n) (S 79 (i.toNatClampNeg * 4 + 0)) (S 79 (i.toNatClampNeg * 4 + 1)) (S 79 (i.toNatClampNeg * 4 + 2)) k = true then 1 else 0, z_mk L Dh S R nx sl) := by
  rw [E211]
  simp only [z_bs, o_52, g_52_41, M131 z_code1, M131 z_code4, M131 z_code6, hP]
  by_cases c1 : i < 0
  · simp only [c1, z_iT, true_or]
  · by_cases c2 : nI p ≤ i
    · simp only [c1, c2, Int32.not_lt.mpr c2, z_iT, or_true, z_iF]
    · simp only [c1, c2, Int32.not_le.mp c2, z_iF, or_self, z_iT]
      by_cases c3 : k < 0
      · simp only [c3, Int32.not_le.mpr c3, z_iT, z_iF]
      · simp only [c3, Int32.not_lt.mp c3, z_iT, z_iF]
        by_cases c4 : (999 : Int32) < k
        · simp only [c4, Int32.not_le.mpr c4, z_iT, z_iF]
        · simp only [c4, Int32.not_lt.mp c4, z_iT, z_iF]
          obtain ⟨j, hj, rfl, -⟩ := z_nat (x := i) (n := p) (by have := z_le.mp (Int32.not_lt.mp c1); exact this) (by have := z_lt.mp (Int32.not_le.mp c2); rw [z_nI (by omega)] at this; exact this)
          rw [M210 hn hS hT (by omega), z_cl (by omega)]
          simp only [z_bs]
          by_cases c5 : z_gd (z_mG S n) (S 79 (j * 4 + 0)) (S 79 (j * 4 + 1)) (S 79 (j * 4 + 2)) k = true
          · rw [if_pos c5, if_neg (by decide)]
          · rw [if_neg c5, if_pos rfl]
end ZRU
