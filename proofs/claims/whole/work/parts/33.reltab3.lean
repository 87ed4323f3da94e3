section ZRV
variable {L : Nat} {Dh : Nat → z_Sh} {S : Nat → Nat → Int32} {R : Nat → Nat → Option Nat} {nx sl : Nat}
theorem z_10 : ((1 : Int32) = 0) = False := eq_false (by decide)
theorem z_full {n m : Nat} {M : Int32} (hm : n ≤ m) (hM : M = nI m) (hb : m < 2147483648) : (nI n = M) = (M ≤ nI n) := by
  subst hM
  apply propext
  rw [z_le, z_eq, z_nI (by omega), z_nI (by omega)]
  omega
theorem S_good (h_I_ref : I_ref S) (h_I_tab : I_tab S) (i k : Int32) : z_R2 (fun h => z_cI 5 119 [.inr (.inr (some 6)), .inl i, .inl k] h) (fun h => z_cI 4 211 [.inr (.inr (some 52)), .inl i, .inl k] h) L Dh S R nx sl A_tab K_tab (fun S => I_ref S ∧ I_tab S) := by
  obtain ⟨n, p, h1, h2, h3, h4, h5, h6, h7, h8, h9, h10, h11⟩ := id h_I_tab
  have hT := I_tab_T h10
  by_cases d1 : i < 0 ∨ nI p ≤ i
  · refine z_R2_no z_code1 rfl rfl h_I_ref ?_ ?_ ⟨z_no_ref h_I_ref z_code1, z_no_tab h_I_tab⟩
    · show z_cI 5 119 _ _ = _
      rw [M119 h1 h3 h2 h5, if_pos d1]
    · show z_cI 4 211 _ _ = _
      rw [M211 (S := z_no 7 S (-1)) h1 h4 hT h2 h6, if_pos d1]
  · skip
    by_cases d2 : k < 0
    · refine z_R2_no z_code4 rfl rfl h_I_ref ?_ ?_ ⟨z_no_ref h_I_ref z_code4, z_no_tab h_I_tab⟩
      · show z_cI 5 119 _ _ = _
        rw [M119 h1 h3 h2 h5, if_neg d1, if_pos d2]
      · show z_cI 4 211 _ _ = _
        rw [M211 (S := z_no 7 S (-4)) h1 h4 hT h2 h6, if_neg d1, if_pos d2]
    · skip
      by_cases d3 : 999 < k
      · refine z_R2_no z_code6 rfl rfl h_I_ref ?_ ?_ ⟨z_no_ref h_I_ref z_code6, z_no_tab h_I_tab⟩
        · show z_cI 5 119 _ _ = _
          rw [M119 h1 h3 h2 h5, if_neg d1, if_neg d2, if_pos d3]
        · show z_cI 4 211 _ _ = _
          rw [M211 (S := z_no 7 S (-6)) h1 h4 hT h2 h6, if_neg d1, if_neg d2, if_pos d3]
      · skip
        obtain ⟨j, hj, rfl, -⟩ := z_nat (x := i) (n := p) (by have := z_le.mp (Int32.not_lt.mp (fun q => d1 (Or.inl q))); exact this) (by have := z_lt.mp (Int32.not_le.mp (fun q => d1 (Or.inr q))); rw [z_nI (by omega)] at this; exact this)
        have hk : k.toInt ≤ 999 := z_le.mp (Int32.not_lt.mp d3)
        obtain ⟨g1, g2, g3, g4, g5, g6⟩ := h11 j hj
        refine z_R2_q (r := if z_gd (z_mG S n) (S 79 (j * 4 + 0)) (S 79 (j * 4 + 1)) (S 79 (j * 4 + 2)) k = true then 1 else 0) ?_ ?_ ⟨h_I_ref, h_I_tab⟩
        · show z_cI 5 119 _ _ = _
          rw [M119 h1 h3 h2 h5, if_neg d1, if_neg d2, if_neg d3, z_cl (by omega), z_gd_eq h10 hk, g1, g2, g3]
        · show z_cI 4 211 _ _ = _
          rw [M211 h1 h4 hT h2 h6, if_neg d1, if_neg d2, if_neg d3, z_cl (by omega)]
theorem z_ovt_congr {f g : Nat → Bool} : ∀ (j i : Nat), (∀ k, i ≤ k → k < i + j → f k = g k) → z_ovt f i j = z_ovt g i j
  | 0, _, _ => rfl
  | j + 1, i, h => by
    unfold z_ovt
    rw [h i (Nat.le_refl _) (by omega), z_ovt_congr j (i + 1) (fun k h1 h2 => h k (by omega) (by omega))]
theorem M120 {n m : Nat} (hn : n ≤ 60) (hS : S 42 6 = nI n) (hm : m ≤ 20) (hP : S 42 11 = nI m) : z_cI 6 120 [.inr (.inr (some 6))] (z_mk L Dh S R nx sl) = some (z_ovt (fun i => z_good (S 43) (S 44) (S 45) (S 46) (S 47) n (S 48 i) (S 49 i) (S 50 i) (S 51 i) && !z_good (S 43) (S 44) (S 45) (S 46) (S 47) n (S 48 i) (S 49 i) (S 50 i) (S 42 0)) 0 m, z_mk L Dh S R nx sl) := by
  rw [E120]
  simp only [g_6_7, o_42, z_bs, M67 hn hS hm hP]
theorem S_overtaken (h_I_ref : I_ref S) (h_I_tab : I_tab S) : z_R2 (fun h => z_cI 6 120 [.inr (.inr (some 6))] h) (fun h => z_cI 4 212 [.inr (.inr (some 52))] h) L Dh S R nx sl A_tab K_tab (fun S => I_ref S ∧ I_tab S) := by
  obtain ⟨n, p, h1, h2, h3, h4, h5, h6, h7, h8, h9, h10, h11⟩ := id h_I_tab
  have hT := I_tab_T h10
  refine z_R2_q (r := z_ovt (fun i => z_gd (z_mG S n) (S 79 (i * 4 + 0)) (S 79 (i * 4 + 1)) (S 79 (i * 4 + 2)) (S 79 (i * 4 + 3)) && !z_gd (z_mG S n) (S 79 (i * 4 + 0)) (S 79 (i * 4 + 1)) (S 79 (i * 4 + 2)) (S 52 38)) 0 p) ?_ ?_ ⟨h_I_ref, h_I_tab⟩
  · show z_cI 6 120 _ _ = _
    rw [M120 h1 h3 h2 h5]
    refine congrArg (fun x => some (x, z_mk L Dh S R nx sl)) (z_ovt_congr p 0 (fun i _ hi => ?_))
    obtain ⟨g1, g2, g3, g4, g5, g6⟩ := h11 i (by omega)
    rw [z_gd_eq h10 g6, z_gd_eq h10 h9, g1, g2, g3, g4, h7]
  · show z_cI 4 212 _ _ = _
    rw [M212 h1 h4 hT h2 h6]
def z_T60 (S : Nat → Nat → Int32) (n : Nat) (g v w : Int32) : Nat → Nat → Int32 := z_ups (z_ups (z_ups (z_ups (z_ups (z_ups S 43 n g) 44 n v) 45 n w) 46 n (S 42 0)) 47 n 1000) 42 6 (nI n + 1)
theorem M60 {n : Nat} (hn : n < 60) (hS : S 42 6 = nI n) {g v w : Int32} : z_cI 1 60 [.inr (.inr (some 42)), .inl g, .inl v, .inl w] (z_mk L Dh S R nx sl) = some (nI n + 1 - 1, z_mk L Dh (z_T60 S n g v w) R nx sl) := by
  have h1 : z_in (nI n) 60 = true := z_in_nI hn (by decide)
  have h2 : (nI n).toNatClampNeg = n := z_cl (by omega)
  rw [E60]
  simp only [g_42_0, g_42_1, g_42_2, g_42_3, g_42_4, g_42_5, g_42_6, p_42_6, z_bs, s_43, s_44, s_45, s_46, s_47, h1, h2, hS, z_upsE, Nat.reduceEqDiff, z_iF, z_iT, z_T60]
theorem z_lt60 {n m : Nat} {M : Int32} (hM : M = nI m) (hm : m < 2147483648) (hn : n ≤ m) (c : ¬ M ≤ nI n) : n < m := by
  subst hM
  have := z_lt.mp (Int32.not_le.mp c)
  rw [z_nI (by omega), z_nI hm] at this
  omega
theorem M114 {n : Nat} (hn : n ≤ 60) (hS : S 42 6 = nI n) {g v w : Int32} : z_cI 2 114 [.inr (.inr (some 6)), .inl g, .inl v, .inl w] (z_mk L Dh S R nx sl) = if g < 0 ∨ 4 ≤ g then some (-1, z_mk L Dh (z_no 7 S (-1)) R nx sl) else if v < 1 ∨ w < 1 then some (-4, z_mk L Dh (z_no 7 S (-4)) R nx sl) else if 99 < v ∨ 9999 < w ∨ 60 ≤ nI n then some (-6, z_mk L Dh (z_no 7 S (-6)) R nx sl) else some (nI n + 1 - 1, z_mk L Dh (z_T60 S n g v w) R nx sl) := by
  rw [E114]
  simp only [z_bs, M122 z_code1, M122 z_code4, M122 z_code6, M125, o_6, o_42, g_6_7, g_42_6, hS]
  by_cases c1 : g < 0
  · simp only [c1, Int32.not_le.mpr c1, true_or, or_true, or_self, false_or, or_false, not_true, not_false_eq_true, Classical.not_not, z_10, z_iT, z_iF]
  · skip
    by_cases c2 : 4 ≤ g
    · simp only [c1, Int32.not_lt.mp c1, c2, Int32.not_lt.mpr c2, true_or, or_true, or_self, false_or, or_false, not_true, not_false_eq_true, Classical.not_not, z_10, z_iT, z_iF]
    · skip
      by_cases c3 : v < 1
      · simp only [c1, Int32.not_lt.mp c1, c2, Int32.not_le.mp c2, c3, Int32.not_le.mpr c3, true_or, or_true, or_self, false_or, or_false, not_true, not_false_eq_true, Classical.not_not, z_10, z_iT, z_iF]
      · skip
        by_cases c4 : w < 1
        · simp only [c1, Int32.not_lt.mp c1, c2, Int32.not_le.mp c2, c3, Int32.not_lt.mp c3, c4, Int32.not_le.mpr c4, true_or, or_true, or_self, false_or, or_false, not_true, not_false_eq_true, Classical.not_not, z_10, z_iT, z_iF]
        · skip
          by_cases c5 : 99 < v
          · simp only [c1, Int32.not_lt.mp c1, c2, Int32.not_le.mp c2, c3, Int32.not_lt.mp c3, c4, Int32.not_lt.mp c4, c5, Int32.not_le.mpr c5, true_or, or_true, or_self, false_or, or_false, not_true, not_false_eq_true, Classical.not_not, z_10, z_iT, z_iF]
          · skip
            by_cases c6 : 9999 < w
            · simp only [c1, Int32.not_lt.mp c1, c2, Int32.not_le.mp c2, c3, Int32.not_lt.mp c3, c4, Int32.not_lt.mp c4, c5, Int32.not_lt.mp c5, c6, Int32.not_le.mpr c6, true_or, or_true, or_self, false_or, or_false, not_true, not_false_eq_true, Classical.not_not, z_10, z_iT, z_iF]
            · skip
              by_cases c7 : 60 ≤ nI n
              · simp only [c1, Int32.not_lt.mp c1, c2, Int32.not_le.mp c2, c3, Int32.not_lt.mp c3, c4, Int32.not_lt.mp c4, c5, Int32.not_lt.mp c5, c6, Int32.not_lt.mp c6, c7, Int32.not_lt.mpr c7, true_or, or_true, or_self, false_or, or_false, not_true, not_false_eq_true, Classical.not_not, z_10, z_iT, z_iF]
              · skip
                simp only [c1, Int32.not_lt.mp c1, c2, Int32.not_le.mp c2, c3, Int32.not_lt.mp c3, c4, Int32.not_lt.mp c4, c5, Int32.not_lt.mp c5, c6, Int32.not_lt.mp c6, c7, Int32.not_le.mp c7, true_or, or_true, or_self, false_or, or_false, not_true, not_false_eq_true, Classical.not_not, z_10, z_iT, z_iF]
                rw [M60 (z_lt60 (m := 60) rfl (by decide) hn c7) hS]
                simp only [z_bs]
theorem z_st78 {i k : Nat} {x : Int32} (h : i * 5 + k < 300) : z_stI (z_mk L Dh S R nx sl) (some 78) (nI (i * 5 + k)) x = some (z_mk L Dh (z_ups S 78 (i * 5 + k) x) R nx sl) := by
  rw [s_78 (z_in_nI h (by decide)), z_cl (by omega)]
theorem z_st78a {i : Nat} {x : Int32} (h : i < 60) : z_stI (z_mk L Dh S R nx sl) (some 78) (nI i * 5) x = some (z_mk L Dh (z_ups S 78 (i * 5 + 0) x) R nx sl) := by rw [show nI i * 5 = nI (i * 5 + 0) from z_pl0 i 5]; exact z_st78 (by omega)
theorem z_st78b {i : Nat} {x : Int32} (h : i < 60) : z_stI (z_mk L Dh S R nx sl) (some 78) (nI i * 5 + 1) x = some (z_mk L Dh (z_ups S 78 (i * 5 + 1) x) R nx sl) := by rw [show nI i * 5 + 1 = nI (i * 5 + 1) from z_pl i 5 1]; exact z_st78 (by omega)
theorem z_st78c {i : Nat} {x : Int32} (h : i < 60) : z_stI (z_mk L Dh S R nx sl) (some 78) (nI i * 5 + 2) x = some (z_mk L Dh (z_ups S 78 (i * 5 + 2) x) R nx sl) := by rw [show nI i * 5 + 2 = nI (i * 5 + 2) from z_pl i 5 2]; exact z_st78 (by omega)
theorem z_st78d {i : Nat} {x : Int32} (h : i < 60) : z_stI (z_mk L Dh S R nx sl) (some 78) (nI i * 5 + 3) x = some (z_mk L Dh (z_ups S 78 (i * 5 + 3) x) R nx sl) := by rw [show nI i * 5 + 3 = nI (i * 5 + 3) from z_pl i 5 3]; exact z_st78 (by omega)
theorem z_st78e {i : Nat} {x : Int32} (h : i < 60) : z_stI (z_mk L Dh S R nx sl) (some 78) (nI i * 5 + 4) x = some (z_mk L Dh (z_ups S 78 (i * 5 + 4) x) R nx sl) := by rw [show nI i * 5 + 4 = nI (i * 5 + 4) from z_pl i 5 4]; exact z_st78 (by omega)
def z_T203 (S : Nat → Nat → Int32) (n : Nat) (g v w : Int32) : Nat → Nat → Int32 := z_ups (z_ups (z_ups (z_ups (z_ups (z_ups S 78 (n * 5 + 0) g) 78 (n * 5 + 1) v) 78 (n * 5 + 2) w) 78 (n * 5 + 3) (S 52 38)) 78 (n * 5 + 4) 9999) 52 39 (nI n + 1)
theorem M203 {n : Nat} (hn : n ≤ 60) (hS : S 52 39 = nI n) {g v w : Int32} : z_cI 2 203 [.inr (.inr (some 52)), .inl g, .inl v, .inl w] (z_mk L Dh S R nx sl) = if g < 0 ∨ 4 ≤ g then some (-1, z_mk L Dh (z_no 86 S (-1)) R nx sl) else if v < 1 ∨ w < 1 then some (-4, z_mk L Dh (z_no 86 S (-4)) R nx sl) else if 99 < v ∨ 9999 < w ∨ 60 ≤ nI n then some (-6, z_mk L Dh (z_no 86 S (-6)) R nx sl) else some (nI n + 1 - 1, z_mk L Dh (z_T203 S n g v w) R nx sl) := by
  rw [E203]
  simp only [z_bs, M131 z_code1, M131 z_code4, M131 z_code6, o_52, g_52_39, g_52_40, g_52_38, hS, z_g34, z_full hn (show (60 : Int32) = nI 60 from rfl) (by decide)]
  by_cases c1 : g < 0
  · simp only [c1, Int32.not_le.mpr c1, true_or, or_true, or_self, false_or, or_false, not_true, not_false_eq_true, Classical.not_not, z_10, z_iT, z_iF]
  · skip
    by_cases c2 : 4 ≤ g
    · simp only [c1, Int32.not_lt.mp c1, c2, Int32.not_lt.mpr c2, true_or, or_true, or_self, false_or, or_false, not_true, not_false_eq_true, Classical.not_not, z_10, z_iT, z_iF]
    · skip
      by_cases c3 : v < 1
      · simp only [c1, Int32.not_lt.mp c1, c2, Int32.not_le.mp c2, c3, Int32.not_le.mpr c3, true_or, or_true, or_self, false_or, or_false, not_true, not_false_eq_true, Classical.not_not, z_10, z_iT, z_iF]
      · skip
        by_cases c4 : w < 1
        · simp only [c1, Int32.not_lt.mp c1, c2, Int32.not_le.mp c2, c3, Int32.not_lt.mp c3, c4, Int32.not_le.mpr c4, true_or, or_true, or_self, false_or, or_false, not_true, not_false_eq_true, Classical.not_not, z_10, z_iT, z_iF]
        · skip
          by_cases c5 : 99 < v
          · simp only [c1, Int32.not_lt.mp c1, c2, Int32.not_le.mp c2, c3, Int32.not_lt.mp c3, c4, Int32.not_lt.mp c4, c5, Int32.not_le.mpr c5, true_or, or_true, or_self, false_or, or_false, not_true, not_false_eq_true, Classical.not_not, z_10, z_iT, z_iF]
          · skip
            by_cases c6 : 9999 < w
            · simp only [c1, Int32.not_lt.mp c1, c2, Int32.not_le.mp c2, c3, Int32.not_lt.mp c3, c4, Int32.not_lt.mp c4, c5, Int32.not_lt.mp c5, c6, Int32.not_le.mpr c6, true_or, or_true, or_self, false_or, or_false, not_true, not_false_eq_true, Classical.not_not, z_10, z_iT, z_iF]
            · skip
              by_cases c7 : 60 ≤ nI n
              · simp only [c1, Int32.not_lt.mp c1, c2, Int32.not_le.mp c2, c3, Int32.not_lt.mp c3, c4, Int32.not_lt.mp c4, c5, Int32.not_lt.mp c5, c6, Int32.not_lt.mp c6, c7, Int32.not_lt.mpr c7, true_or, or_true, or_self, false_or, or_false, not_true, not_false_eq_true, Classical.not_not, z_10, z_iT, z_iF]
              · skip
                simp only [c1, Int32.not_lt.mp c1, c2, Int32.not_le.mp c2, c3, Int32.not_lt.mp c3, c4, Int32.not_lt.mp c4, c5, Int32.not_lt.mp c5, c6, Int32.not_lt.mp c6, c7, Int32.not_le.mp c7, true_or, or_true, or_self, false_or, or_false, not_true, not_false_eq_true, Classical.not_not, z_10, z_iT, z_iF]
                have hlt : n < 60 := by
                  have := z_lt.mp (Int32.not_le.mp c7)
                  rw [z_nI (by omega)] at this
                  have e : (60 : Int32).toInt = 60 := rfl
                  omega
                simp only [z_st78a hlt, z_st78b hlt, z_st78c hlt, z_st78d hlt, z_st78e hlt, z_bs, g_52_39, g_52_40, g_52_38, p_52_39, z_upsE, Nat.reduceEqDiff, z_iF, z_iT, hS, z_T203]
theorem S_run (h_I_ref : I_ref S) (h_I_tab : I_tab S) (g v w : Int32) : z_R2 (fun h => z_cI 2 114 [.inr (.inr (some 6)), .inl g, .inl v, .inl w] h) (fun h => z_cI 2 203 [.inr (.inr (some 52)), .inl g, .inl v, .inl w] h) L Dh S R nx sl A_tab K_tab (fun S => I_ref S ∧ I_tab S) := by
  obtain ⟨n, p, h1, h2, h3, h4, h5, h6, h7, h8, h9, h10, h11⟩ := id h_I_tab
  have hT := I_tab_T h10
  by_cases d1 : g < 0 ∨ 4 ≤ g
  · refine z_R2_no z_code1 rfl rfl h_I_ref ?_ ?_ ⟨z_no_ref h_I_ref z_code1, z_no_tab h_I_tab⟩
    · show z_cI 2 114 _ _ = _
      rw [M114 h1 h3, if_pos d1]
    · show z_cI 2 203 _ _ = _
      rw [M203 (S := z_no 7 S (-1)) h1 h4, if_pos d1]
  · skip
    by_cases d2 : v < 1 ∨ w < 1
    · refine z_R2_no z_code4 rfl rfl h_I_ref ?_ ?_ ⟨z_no_ref h_I_ref z_code4, z_no_tab h_I_tab⟩
      · show z_cI 2 114 _ _ = _
        rw [M114 h1 h3, if_neg d1, if_pos d2]
      · show z_cI 2 203 _ _ = _
        rw [M203 (S := z_no 7 S (-4)) h1 h4, if_neg d1, if_pos d2]
    · skip
      by_cases d3 : 99 < v ∨ 9999 < w ∨ 60 ≤ nI n
      · refine z_R2_no z_code6 rfl rfl h_I_ref ?_ ?_ ⟨z_no_ref h_I_ref z_code6, z_no_tab h_I_tab⟩
        · show z_cI 2 114 _ _ = _
          rw [M114 h1 h3, if_neg d1, if_neg d2, if_pos d3]
        · show z_cI 2 203 _ _ = _
          rw [M203 (S := z_no 7 S (-6)) h1 h4, if_neg d1, if_neg d2, if_pos d3]
      · skip
        have hlt : n < 60 := z_lt60 (m := 60) rfl (by decide) h1 (fun q => d3 (Or.inr (Or.inr q)))
        have w1 : 1 ≤ w.toInt := z_le.mp (Int32.not_lt.mp (fun q => d2 (Or.inr q)))
        have w2 : w.toInt ≤ 9999 := z_le.mp (Int32.not_lt.mp (fun q => d3 (Or.inr (Or.inl q))))
        refine ⟨nI n + 1 - 1, z_T60 S n g v w, z_T203 (z_T60 S n g v w) n g v w, ?_, ?_, ?_, I_ref_fr h_I_ref ⟨rfl, rfl⟩, ?_⟩
        · show z_cI 2 114 _ _ = _
          rw [M114 h1 h3, if_neg d1, if_neg d2, if_neg d3]
        · show z_cI 2 203 _ _ = _
          rw [M203 (S := z_T60 S n g v w) h1 h4, if_neg d1, if_neg d2, if_neg d3]
        · unfold z_T203 z_T60
          refine z_fr_upm ?_ rfl
          repeat (first | exact z_fr_id | refine z_fr_ups ?_ rfl (by decide))
        · refine ⟨n + 1, p, by omega, h2, ?_, ?_, h5, h6, h7, h8, h9, fun i hi => ?_, h11⟩
          · show nI n + 1 = nI (n + 1)
            exact nI_1 n
          · show nI n + 1 = nI (n + 1)
            exact nI_1 n
          · by_cases hin : i = n
            · subst hin
              unfold z_T203 z_T60
              simp only [z_upsE, Nat.reduceEqDiff, z_iF, z_iT, h7, show ¬ (i * 5 = i * 5 + 1) by omega, show ¬ (i * 5 = i * 5 + 2) by omega, show ¬ (i * 5 = i * 5 + 3) by omega, show ¬ (i * 5 = i * 5 + 4) by omega, show ¬ (i * 5 + 0 = i * 5 + 1) by omega, show ¬ (i * 5 + 0 = i * 5 + 2) by omega, show ¬ (i * 5 + 0 = i * 5 + 3) by omega, show ¬ (i * 5 + 0 = i * 5 + 4) by omega]
              refine ⟨?_, ?_, ?_, ?_, Or.inl ⟨rfl, ?_⟩, w1, w2, Int.le_refl _⟩ <;> trivial
            · have hlt2 : i < n := by omega
              have hne : ∀ a b : Nat, a < 5 → b < 5 → ¬ (i * 5 + a = n * 5 + b) := fun a b ha hb => by omega
              unfold z_T203 z_T60
              simp only [z_upsE, Nat.reduceEqDiff, z_iF, z_iT, hin, hne _ _ (show 0 < 5 by decide) (show 0 < 5 by decide), hne 0 1 (by decide) (by decide), hne 0 2 (by decide) (by decide), hne 0 3 (by decide) (by decide), hne 0 4 (by decide) (by decide), hne 1 0 (by decide) (by decide), hne 1 1 (by decide) (by decide), hne 1 2 (by decide) (by decide), hne 1 3 (by decide) (by decide), hne 1 4 (by decide) (by decide), hne 2 0 (by decide) (by decide), hne 2 1 (by decide) (by decide), hne 2 2 (by decide) (by decide), hne 2 3 (by decide) (by decide), hne 2 4 (by decide) (by decide), hne 3 0 (by decide) (by decide), hne 3 1 (by decide) (by decide), hne 3 2 (by decide) (by decide), hne 3 3 (by decide) (by decide), hne 3 4 (by decide) (by decide), hne 4 0 (by decide) (by decide), hne 4 1 (by decide) (by decide), hne 4 2 (by decide) (by decide), hne 4 3 (by decide) (by decide), hne 4 4 (by decide) (by decide)]
              exact h10 i hlt2
def z_T65 (S : Nat → Nat → Int32) (p : Nat) (g v w : Int32) : Nat → Nat → Int32 := z_ups (z_ups (z_ups (z_ups (z_ups S 48 p g) 49 p v) 50 p w) 51 p (S 42 0)) 42 11 (nI p + 1)
theorem M65b {p : Nat} (hp : p < 20) (hP : S 42 11 = nI p) {g v w : Int32} : z_cI 1 65 [.inr (.inr (some 42)), .inl g, .inl v, .inl w] (z_mk L Dh S R nx sl) = some (nI p + 1 - 1, z_mk L Dh (z_T65 S p g v w) R nx sl) := by
  rw [M65 (by rw [hP]; exact z_in_nI hp (by decide)), hP, z_cl (by omega)]
  rfl
theorem z_st79 {i k : Nat} {x : Int32} (h : i * 4 + k < 80) : z_stI (z_mk L Dh S R nx sl) (some 79) (nI (i * 4 + k)) x = some (z_mk L Dh (z_ups S 79 (i * 4 + k) x) R nx sl) := by
  rw [s_79 (z_in_nI h (by decide)), z_cl (by omega)]
theorem z_st79a {i : Nat} {x : Int32} (h : i < 20) : z_stI (z_mk L Dh S R nx sl) (some 79) (nI i * 4) x = some (z_mk L Dh (z_ups S 79 (i * 4 + 0) x) R nx sl) := by rw [show nI i * 4 = nI (i * 4 + 0) from z_pl0 i 4]; exact z_st79 (by omega)
theorem z_st79b {i : Nat} {x : Int32} (h : i < 20) : z_stI (z_mk L Dh S R nx sl) (some 79) (nI i * 4 + 1) x = some (z_mk L Dh (z_ups S 79 (i * 4 + 1) x) R nx sl) := by rw [show nI i * 4 + 1 = nI (i * 4 + 1) from z_pl i 4 1]; exact z_st79 (by omega)
theorem z_st79c {i : Nat} {x : Int32} (h : i < 20) : z_stI (z_mk L Dh S R nx sl) (some 79) (nI i * 4 + 2) x = some (z_mk L Dh (z_ups S 79 (i * 4 + 2) x) R nx sl) := by rw [show nI i * 4 + 2 = nI (i * 4 + 2) from z_pl i 4 2]; exact z_st79 (by omega)
theorem z_st79d {i : Nat} {x : Int32} (h : i < 20) : z_stI (z_mk L Dh S R nx sl) (some 79) (nI i * 4 + 3) x = some (z_mk L Dh (z_ups S 79 (i * 4 + 3) x) R nx sl) := by rw [show nI i * 4 + 3 = nI (i * 4 + 3) from z_pl i 4 3]; exact z_st79 (by omega)
def z_T209 (S : Nat → Nat → Int32) (p : Nat) (g v w : Int32) : Nat → Nat → Int32 := z_ups (z_ups (z_ups (z_ups (z_ups S 79 (p * 4 + 0) g) 79 (p * 4 + 1) v) 79 (p * 4 + 2) w) 79 (p * 4 + 3) (S 52 38)) 52 41 (nI p + 1)
theorem M118 {p : Nat} (hp : p ≤ 20) (hP : S 42 11 = nI p) {g v w : Int32} : z_cI 2 118 [.inr (.inr (some 6)), .inl g, .inl v, .inl w] (z_mk L Dh S R nx sl) = if g < 0 ∨ 4 ≤ g then some (-1, z_mk L Dh (z_no 7 S (-1)) R nx sl) else if v < 1 ∨ w < 1 then some (-4, z_mk L Dh (z_no 7 S (-4)) R nx sl) else if 99 < v ∨ 99999 < w ∨ 20 ≤ nI p then some (-6, z_mk L Dh (z_no 7 S (-6)) R nx sl) else some (nI p + 1 - 1, z_mk L Dh (z_T65 S p g v w) R nx sl) := by
  rw [E118]
  simp only [z_bs, M122 z_code1, M122 z_code4, M122 z_code6, M125, o_6, o_42, g_6_7, g_42_11, hP]
  by_cases c1 : g < 0
  · simp only [c1, Int32.not_le.mpr c1, true_or, or_true, or_self, false_or, or_false, not_true, not_false_eq_true, Classical.not_not, z_10, z_iT, z_iF]
  · skip
    by_cases c2 : 4 ≤ g
    · simp only [c1, Int32.not_lt.mp c1, c2, Int32.not_lt.mpr c2, true_or, or_true, or_self, false_or, or_false, not_true, not_false_eq_true, Classical.not_not, z_10, z_iT, z_iF]
    · skip
      by_cases c3 : v < 1
      · simp only [c1, Int32.not_lt.mp c1, c2, Int32.not_le.mp c2, c3, Int32.not_le.mpr c3, true_or, or_true, or_self, false_or, or_false, not_true, not_false_eq_true, Classical.not_not, z_10, z_iT, z_iF]
      · skip
        by_cases c4 : w < 1
        · simp only [c1, Int32.not_lt.mp c1, c2, Int32.not_le.mp c2, c3, Int32.not_lt.mp c3, c4, Int32.not_le.mpr c4, true_or, or_true, or_self, false_or, or_false, not_true, not_false_eq_true, Classical.not_not, z_10, z_iT, z_iF]
        · skip
          by_cases c5 : 99 < v
          · simp only [c1, Int32.not_lt.mp c1, c2, Int32.not_le.mp c2, c3, Int32.not_lt.mp c3, c4, Int32.not_lt.mp c4, c5, Int32.not_le.mpr c5, true_or, or_true, or_self, false_or, or_false, not_true, not_false_eq_true, Classical.not_not, z_10, z_iT, z_iF]
          · skip
            by_cases c6 : 99999 < w
            · simp only [c1, Int32.not_lt.mp c1, c2, Int32.not_le.mp c2, c3, Int32.not_lt.mp c3, c4, Int32.not_lt.mp c4, c5, Int32.not_lt.mp c5, c6, Int32.not_le.mpr c6, true_or, or_true, or_self, false_or, or_false, not_true, not_false_eq_true, Classical.not_not, z_10, z_iT, z_iF]
            · skip
              by_cases c7 : 20 ≤ nI p
              · simp only [c1, Int32.not_lt.mp c1, c2, Int32.not_le.mp c2, c3, Int32.not_lt.mp c3, c4, Int32.not_lt.mp c4, c5, Int32.not_lt.mp c5, c6, Int32.not_lt.mp c6, c7, Int32.not_lt.mpr c7, true_or, or_true, or_self, false_or, or_false, not_true, not_false_eq_true, Classical.not_not, z_10, z_iT, z_iF]
              · skip
                simp only [c1, Int32.not_lt.mp c1, c2, Int32.not_le.mp c2, c3, Int32.not_lt.mp c3, c4, Int32.not_lt.mp c4, c5, Int32.not_lt.mp c5, c6, Int32.not_lt.mp c6, c7, Int32.not_le.mp c7, true_or, or_true, or_self, false_or, or_false, not_true, not_false_eq_true, Classical.not_not, z_10, z_iT, z_iF]
                rw [M65b (z_lt60 (m := 20) rfl (by decide) hp c7) hP]
                simp only [z_bs]
theorem M209 {p : Nat} (hp : p ≤ 20) (hP : S 52 41 = nI p) {g v w : Int32} : z_cI 2 209 [.inr (.inr (some 52)), .inl g, .inl v, .inl w] (z_mk L Dh S R nx sl) = if g < 0 ∨ 4 ≤ g then some (-1, z_mk L Dh (z_no 86 S (-1)) R nx sl) else if v < 1 ∨ w < 1 then some (-4, z_mk L Dh (z_no 86 S (-4)) R nx sl) else if 99 < v ∨ 99999 < w ∨ 20 ≤ nI p then some (-6, z_mk L Dh (z_no 86 S (-6)) R nx sl) else some (nI p + 1 - 1, z_mk L Dh (z_T209 S p g v w) R nx sl) := by
  rw [E209]
  simp only [z_bs, M131 z_code1, M131 z_code4, M131 z_code6, o_52, g_52_41, g_52_42, g_52_38, hP, z_g34, z_full hp (show (20 : Int32) = nI 20 from rfl) (by decide)]
  by_cases c1 : g < 0
  · simp only [c1, Int32.not_le.mpr c1, true_or, or_true, or_self, false_or, or_false, not_true, not_false_eq_true, Classical.not_not, z_10, z_iT, z_iF]
  · skip
    by_cases c2 : 4 ≤ g
    · simp only [c1, Int32.not_lt.mp c1, c2, Int32.not_lt.mpr c2, true_or, or_true, or_self, false_or, or_false, not_true, not_false_eq_true, Classical.not_not, z_10, z_iT, z_iF]
    · skip
      by_cases c3 : v < 1
      · simp only [c1, Int32.not_lt.mp c1, c2, Int32.not_le.mp c2, c3, Int32.not_le.mpr c3, true_or, or_true, or_self, false_or, or_false, not_true, not_false_eq_true, Classical.not_not, z_10, z_iT, z_iF]
      · skip
        by_cases c4 : w < 1
        · simp only [c1, Int32.not_lt.mp c1, c2, Int32.not_le.mp c2, c3, Int32.not_lt.mp c3, c4, Int32.not_le.mpr c4, true_or, or_true, or_self, false_or, or_false, not_true, not_false_eq_true, Classical.not_not, z_10, z_iT, z_iF]
        · skip
          by_cases c5 : 99 < v
          · simp only [c1, Int32.not_lt.mp c1, c2, Int32.not_le.mp c2, c3, Int32.not_lt.mp c3, c4, Int32.not_lt.mp c4, c5, Int32.not_le.mpr c5, true_or, or_true, or_self, false_or, or_false, not_true, not_false_eq_true, Classical.not_not, z_10, z_iT, z_iF]
          · skip
            by_cases c6 : 99999 < w
            · simp only [c1, Int32.not_lt.mp c1, c2, Int32.not_le.mp c2, c3, Int32.not_lt.mp c3, c4, Int32.not_lt.mp c4, c5, Int32.not_lt.mp c5, c6, Int32.not_le.mpr c6, true_or, or_true, or_self, false_or, or_false, not_true, not_false_eq_true, Classical.not_not, z_10, z_iT, z_iF]
            · skip
              by_cases c7 : 20 ≤ nI p
              · simp only [c1, Int32.not_lt.mp c1, c2, Int32.not_le.mp c2, c3, Int32.not_lt.mp c3, c4, Int32.not_lt.mp c4, c5, Int32.not_lt.mp c5, c6, Int32.not_lt.mp c6, c7, Int32.not_lt.mpr c7, true_or, or_true, or_self, false_or, or_false, not_true, not_false_eq_true, Classical.not_not, z_10, z_iT, z_iF]
              · skip
                simp only [c1, Int32.not_lt.mp c1, c2, Int32.not_le.mp c2, c3, Int32.not_lt.mp c3, c4, Int32.not_lt.mp c4, c5, Int32.not_lt.mp c5, c6, Int32.not_lt.mp c6, c7, Int32.not_le.mp c7, true_or, or_true, or_self, false_or, or_false, not_true, not_false_eq_true, Classical.not_not, z_10, z_iT, z_iF]
                have hlt : p < 20 := z_lt60 (m := 20) rfl (by decide) hp c7
                simp only [z_st79a hlt, z_st79b hlt, z_st79c hlt, z_st79d hlt, z_bs, g_52_41, g_52_42, g_52_38, p_52_41, z_upsE, Nat.reduceEqDiff, z_iF, z_iT, hP, z_T209]
theorem S_plan (h_I_ref : I_ref S) (h_I_tab : I_tab S) (g v w : Int32) : z_R2 (fun h => z_cI 2 118 [.inr (.inr (some 6)), .inl g, .inl v, .inl w] h) (fun h => z_cI 2 209 [.inr (.inr (some 52)), .inl g, .inl v, .inl w] h) L Dh S R nx sl A_tab K_tab (fun S => I_ref S ∧ I_tab S) := by
  obtain ⟨n, p, h1, h2, h3, h4, h5, h6, h7, h8, h9, h10, h11⟩ := id h_I_tab
  have hT := I_tab_T h10
  by_cases d1 : g < 0 ∨ 4 ≤ g
  · refine z_R2_no z_code1 rfl rfl h_I_ref ?_ ?_ ⟨z_no_ref h_I_ref z_code1, z_no_tab h_I_tab⟩
    · show z_cI 2 118 _ _ = _
      rw [M118 h2 h5, if_pos d1]
    · show z_cI 2 209 _ _ = _
      rw [M209 (S := z_no 7 S (-1)) h2 h6, if_pos d1]
  · skip
    by_cases d2 : v < 1 ∨ w < 1
    · refine z_R2_no z_code4 rfl rfl h_I_ref ?_ ?_ ⟨z_no_ref h_I_ref z_code4, z_no_tab h_I_tab⟩
      · show z_cI 2 118 _ _ = _
        rw [M118 h2 h5, if_neg d1, if_pos d2]
      · show z_cI 2 209 _ _ = _
        rw [M209 (S := z_no 7 S (-4)) h2 h6, if_neg d1, if_pos d2]
    · skip
      by_cases d3 : 99 < v ∨ 99999 < w ∨ 20 ≤ nI p
      · refine z_R2_no z_code6 rfl rfl h_I_ref ?_ ?_ ⟨z_no_ref h_I_ref z_code6, z_no_tab h_I_tab⟩
        · show z_cI 2 118 _ _ = _
          rw [M118 h2 h5, if_neg d1, if_neg d2, if_pos d3]
        · show z_cI 2 209 _ _ = _
          rw [M209 (S := z_no 7 S (-6)) h2 h6, if_neg d1, if_neg d2, if_pos d3]
      · skip
        have hlt : p < 20 := z_lt60 (m := 20) rfl (by decide) h2 (fun q => d3 (Or.inr (Or.inr q)))
        refine ⟨nI p + 1 - 1, z_T65 S p g v w, z_T209 (z_T65 S p g v w) p g v w, ?_, ?_, ?_, I_ref_fr h_I_ref ⟨rfl, rfl⟩, ?_⟩
        · show z_cI 2 118 _ _ = _
          rw [M118 h2 h5, if_neg d1, if_neg d2, if_neg d3]
        · show z_cI 2 209 _ _ = _
          rw [M209 (S := z_T65 S p g v w) h2 h6, if_neg d1, if_neg d2, if_neg d3]
        · unfold z_T209 z_T65
          refine z_fr_upm ?_ rfl
          repeat (first | exact z_fr_id | refine z_fr_ups ?_ rfl (by decide))
        · refine ⟨n, p + 1, h1, by omega, h3, h4, ?_, ?_, h7, h8, h9, h10, fun i hi => ?_⟩
          · show nI p + 1 = nI (p + 1)
            exact nI_1 p
          · show nI p + 1 = nI (p + 1)
            exact nI_1 p
          · by_cases hin : i = p
            · subst hin
              unfold z_T209 z_T65
              simp only [z_upsE, Nat.reduceEqDiff, z_iF, z_iT, h7, show ¬ (i * 4 = i * 4 + 1) by omega, show ¬ (i * 4 = i * 4 + 2) by omega, show ¬ (i * 4 = i * 4 + 3) by omega, show ¬ (i * 4 + 0 = i * 4 + 1) by omega, show ¬ (i * 4 + 0 = i * 4 + 2) by omega, show ¬ (i * 4 + 0 = i * 4 + 3) by omega]
              exact ⟨by trivial, by trivial, by trivial, by trivial, h8, h9⟩
            · have hlt2 : i < p := by omega
              have hne : ∀ a b : Nat, a < 4 → b < 4 → ¬ (i * 4 + a = p * 4 + b) := fun a b ha hb => by omega
              unfold z_T209 z_T65
              simp only [z_upsE, Nat.reduceEqDiff, z_iF, z_iT, hin, hne 0 0 (by decide) (by decide), hne 0 1 (by decide) (by decide), hne 0 2 (by decide) (by decide), hne 0 3 (by decide) (by decide), hne 1 0 (by decide) (by decide), hne 1 1 (by decide) (by decide), hne 1 2 (by decide) (by decide), hne 1 3 (by decide) (by decide), hne 2 0 (by decide) (by decide), hne 2 1 (by decide) (by decide), hne 2 2 (by decide) (by decide), hne 2 3 (by decide) (by decide), hne 3 0 (by decide) (by decide), hne 3 1 (by decide) (by decide), hne 3 2 (by decide) (by decide), hne 3 3 (by decide) (by decide)]
              exact h11 i hlt2
theorem M115 {n : Nat} (hn : n ≤ 60) (hS : S 42 6 = nI n) {i : Int32} : z_cI 2 115 [.inr (.inr (some 6)), .inl i] (z_mk L Dh S R nx sl) = if i < 0 ∨ nI n ≤ i then some (-1, z_mk L Dh (z_no 7 S (-1)) R nx sl) else if ¬ S 47 i.toNatClampNeg = 1000 then some (-3, z_mk L Dh (z_no 7 S (-3)) R nx sl) else some (1, z_mk L Dh (z_ups S 47 i.toNatClampNeg (S 42 0)) R nx sl) := by
  rw [E115]
  simp only [z_bs, M122 z_code1, M122 z_code3, o_6, g_6_7, g_42_6, g_42_5, g_42_0, hS]
  by_cases c1 : i < 0
  · simp only [c1, true_or, z_iT]
  · by_cases c2 : nI n ≤ i
    · simp only [c1, c2, Int32.not_lt.mpr c2, or_true, z_iT, z_iF]
    · simp only [c1, c2, Int32.not_le.mp c2, or_self, z_iT, z_iF]
      obtain ⟨j, hj, rfl, -⟩ := z_nat (x := i) (n := n) (by have := z_le.mp (Int32.not_lt.mp c1); exact this) (by have := z_lt.mp (Int32.not_le.mp c2); rw [z_nI (by omega)] at this; exact this)
      have hin : z_in (nI j) 60 = true := z_in_nI (by omega) (by decide)
      simp only [l_47 hin, s_47 hin, z_bs]
      by_cases c3 : S 47 (nI j).toNatClampNeg = 1000
      · simp only [c3, not_true, z_iT, z_iF]
      · simp only [c3, not_false_eq_true, z_iT, z_iF]
theorem M204 {n : Nat} (hn : n ≤ 60) (hS : S 52 39 = nI n) {i : Int32} : z_cI 2 204 [.inr (.inr (some 52)), .inl i] (z_mk L Dh S R nx sl) = if i < 0 ∨ nI n ≤ i then some (-1, z_mk L Dh (z_no 86 S (-1)) R nx sl) else if ¬ S 78 (i.toNatClampNeg * 5 + 4) = 9999 then some (-3, z_mk L Dh (z_no 86 S (-3)) R nx sl) else some (1, z_mk L Dh (z_ups S 78 (i.toNatClampNeg * 5 + 4) (S 52 38)) R nx sl) := by
  rw [E204]
  simp only [z_bs, M131 z_code1, M131 z_code3, o_52, g_52_38, g_52_39, g_52_40, hS]
  by_cases c1 : i < 0
  · simp only [c1, true_or, z_iT]
  · by_cases c2 : nI n ≤ i
    · simp only [c1, c2, Int32.not_lt.mpr c2, or_true, z_iT, z_iF]
    · simp only [c1, c2, Int32.not_le.mp c2, or_self, z_iT, z_iF]
      obtain ⟨j, hj, rfl, -⟩ := z_nat (x := i) (n := n) (by have := z_le.mp (Int32.not_lt.mp c1); exact this) (by have := z_lt.mp (Int32.not_le.mp c2); rw [z_nI (by omega)] at this; exact this)
      have a4 : nI j * 5 + 4 = nI (j * 5 + 4) := z_pl j 5 4
      rw [z_cl (by omega)]
      simp only [a4, z_ld78 (show j * 5 + 4 < 300 by omega), z_st78 (show j * 5 + 4 < 300 by omega), z_bs]
      by_cases c3 : S 78 (j * 5 + 4) = 9999
      · simp only [c3, not_true, z_iT, z_iF]
      · simp only [c3, not_false_eq_true, z_iT, z_iF]
theorem S_takeBack (h_I_ref : I_ref S) (h_I_tab : I_tab S) (i : Int32) : z_R2 (fun h => z_cI 2 115 [.inr (.inr (some 6)), .inl i] h) (fun h => z_cI 2 204 [.inr (.inr (some 52)), .inl i] h) L Dh S R nx sl A_tab K_tab (fun S => I_ref S ∧ I_tab S) := by
  obtain ⟨n, p, h1, h2, h3, h4, h5, h6, h7, h8, h9, h10, h11⟩ := id h_I_tab
  by_cases d1 : i < 0 ∨ nI n ≤ i
  · refine z_R2_no z_code1 rfl rfl h_I_ref ?_ ?_ ⟨z_no_ref h_I_ref z_code1, z_no_tab h_I_tab⟩
    · show z_cI 2 115 _ _ = _
      rw [M115 h1 h3, if_pos d1]
    · show z_cI 2 204 _ _ = _
      rw [M204 (S := z_no 7 S (-1)) h1 h4, if_pos d1]
  · obtain ⟨j, hj, rfl, -⟩ := z_nat (x := i) (n := n) (by have := z_le.mp (Int32.not_lt.mp (fun q => d1 (Or.inl q))); exact this) (by have := z_lt.mp (Int32.not_le.mp (fun q => d1 (Or.inr q))); rw [z_nI (by omega)] at this; exact this)
    have hcl : (nI j).toNatClampNeg = j := z_cl (by omega)
    obtain ⟨g1, g2, g3, g4, g5, g6, g7, g8⟩ := h10 j hj
    have hbk : (S 47 j = 1000) ↔ (S 78 (j * 5 + 4) = 9999) := by
      rcases g5 with ⟨a, b⟩ | ⟨a, b, c⟩
      · rw [a, b]; exact ⟨fun _ => rfl, fun _ => rfl⟩
      · constructor
        · intro q
          rw [q] at c
          exact absurd c (by decide)
        · intro q
          rw [a, q] at c
          exact absurd c (by decide)
    by_cases d2 : S 47 j = 1000
    · refine ⟨1, z_ups S 47 j (S 42 0), z_ups (z_ups S 47 j (S 42 0)) 78 (j * 5 + 4) (S 42 0), ?_, ?_, z_fr_ups (z_fr_ups z_fr_id rfl (by decide)) rfl (by decide), I_ref_fr h_I_ref ⟨rfl, rfl⟩, ?_⟩
      · show z_cI 2 115 _ _ = _
        rw [M115 h1 h3, if_neg d1, hcl, if_neg (fun q => q d2)]
      · show z_cI 2 204 _ _ = _
        have e1 : z_ups S 47 j (S 42 0) 78 = S 78 := rfl
        have e2 : z_ups S 47 j (S 42 0) 52 38 = S 42 0 := h7
        rw [M204 (S := z_ups S 47 j (S 42 0)) h1 h4, if_neg d1, hcl, e1, e2, if_neg (fun q => q (hbk.mp d2))]
      · refine ⟨n, p, h1, h2, h3, h4, h5, h6, h7, h8, h9, fun i hi => ?_, h11⟩
        obtain ⟨k1, k2, k3, k4, k5, k6, k7, k8⟩ := h10 i hi
        have hne : ∀ a : Nat, a < 4 → ¬ (i * 5 + a = j * 5 + 4) := fun a ha => by omega
        simp only [z_upsE, Nat.reduceEqDiff, z_iF, z_iT, hne 0 (by decide), hne 1 (by decide), hne 2 (by decide), hne 3 (by decide)]
        refine ⟨k1, k2, k3, k4, ?_, k6, k7, k8⟩
        by_cases hij : i = j
        · subst hij
          rw [if_pos rfl, if_pos rfl]
          exact Or.inr ⟨rfl, h8, h9⟩
        · rw [if_neg hij, if_neg (by omega)]
          exact k5
    · refine z_R2_no z_code3 rfl rfl h_I_ref ?_ ?_ ⟨z_no_ref h_I_ref z_code3, z_no_tab h_I_tab⟩
      · show z_cI 2 115 _ _ = _
        rw [M115 h1 h3, if_neg d1, hcl, if_pos d2]
      · show z_cI 2 204 _ _ = _
        have e1 : z_no 7 S (-3) 78 = S 78 := rfl
        rw [M204 (S := z_no 7 S (-3)) h1 h4, if_neg d1, hcl, e1, if_pos (fun q => d2 (hbk.mpr q))]
end ZRV
