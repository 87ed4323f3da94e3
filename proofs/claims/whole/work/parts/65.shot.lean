section ZTA
variable {L : Nat} {Dh : Nat → z_Sh} {S : Nat → Nat → Int32} {R : Nat → Nat → Option Nat} {nx sl : Nat}
theorem z_le34 (d : Int32) : (d ≤ 3) = ¬ (4 ≤ d) := propext ⟨fun h q => by have a := z_le.mp h; have b := z_le.mp q; have e1 : (3 : Int32).toInt = 3 := rfl; have e2 : (4 : Int32).toInt = 4 := rfl; omega, fun h => z_le.mpr (by have b := z_lt.mp (Int32.not_le.mp h); have e1 : (3 : Int32).toInt = 3 := rfl; have e2 : (4 : Int32).toInt = 4 := rfl; omega)⟩
theorem y_lt7 {n : Nat} (h : n ≤ 7) : (nI n < 7) = ¬ (7 ≤ n) := propext ⟨fun h q => by have a := z_lt.mp h; rw [z_nI (by omega)] at a; have e1 : (7 : Int32).toInt = 7 := rfl; omega, fun q => z_lt.mpr (by rw [z_nI (by omega)]; have e1 : (7 : Int32).toInt = 7 := rfl; omega)⟩
theorem y_eq7 {n : Nat} (h : n ≤ 7) : (nI n = 7) = (7 ≤ n) := propext ⟨fun q => by have a := z_eq.mp q; rw [z_nI (by omega)] at a; have e1 : (7 : Int32).toInt = 7 := rfl; omega, fun q => z_eq.mpr (by rw [z_nI (by omega)]; have e1 : (7 : Int32).toInt = 7 := rfl; omega)⟩
def A_sht (a : Nat) : Bool := decide (a ∈ [7, 28, 29, 30, 31, 32, 33, 34, 35, 36, 73, 86])
def K_sht (k : Nat) : Bool := decide (k ∈ [28])
def J_shp (S S' : Nat → Nat → Int32) : Prop := I_ref S' ∧ I_sht S' ∧ I_bst S' ∧ ∀ q, q ≠ 6 → q ≠ 9 → q ≠ 10 → q ≠ 11 → S' 28 q = S 28 q
theorem J_shp_no {c : Int32} (h_I_ref : I_ref S) (h_I_sht : I_sht S) (hb : I_bst S) (hc : z_code c) : J_shp S (z_no 86 (z_no 7 S c) c) := ⟨z_no_ref h_I_ref hc, I_sht_fr h_I_sht ⟨rfl, rfl, rfl, rfl, rfl, rfl, rfl, rfl, rfl⟩, z_no_bst hb, fun _ _ _ _ _ => rfl⟩
theorem S_shot (h_I_ref : I_ref S) (h_I_sht : I_sht S) (hb : I_bst S) (t m f u k d : Int32) : z_R2 (fun h => z_cI 62 107 [.inr (.inr (some 6)), .inl t, .inl m, .inl f, .inl u, .inl k, .inl d] h) (fun h => z_cI 2 189 [.inr (.inr (some 52)), .inl t, .inl m, .inl f, .inl u, .inl k, .inl d] h) L Dh S R nx sl A_sht K_sht (J_shp S) := by
  obtain ⟨n, hn, n1, n2, n3⟩ := id h_I_sht
  by_cases c1 : t < 0
  · refine z_R2_no z_code1 rfl rfl h_I_ref ?_ ?_ (J_shp_no h_I_ref h_I_sht hb z_code1)
    · show z_cI 62 107 _ _ = _
      rw [E107]
      simp only [M122 z_code1, z_bs, o_6, g_6_5, g_28_6, n1, y_lt7 hn, z_ii, c1, Int32.not_le.mpr c1, true_or, or_true, or_self, false_or, or_false, not_true, not_false_eq_true, Classical.not_not, z_10, z_iT, z_iF]
    · show z_cI 2 189 _ _ = _
      rw [E189]
      simp only [M131 z_code1, z_bs, o_52, z_le34, g_52_28, show (z_no 7 S (-1)) 52 28 = nI n from n2, y_eq7 hn, c1, Int32.not_le.mpr c1, true_or, or_true, or_self, false_or, or_false, not_true, not_false_eq_true, Classical.not_not, z_10, z_iT, z_iF]
  · skip
    by_cases c2 : 4 ≤ t
    · refine z_R2_no z_code1 rfl rfl h_I_ref ?_ ?_ (J_shp_no h_I_ref h_I_sht hb z_code1)
      · show z_cI 62 107 _ _ = _
        rw [E107]
        simp only [M122 z_code1, z_bs, o_6, g_6_5, g_28_6, n1, y_lt7 hn, z_ii, c1, Int32.not_lt.mp c1, c2, Int32.not_lt.mpr c2, true_or, or_true, or_self, false_or, or_false, not_true, not_false_eq_true, Classical.not_not, z_10, z_iT, z_iF]
      · show z_cI 2 189 _ _ = _
        rw [E189]
        simp only [M131 z_code1, z_bs, o_52, z_le34, g_52_28, show (z_no 7 S (-1)) 52 28 = nI n from n2, y_eq7 hn, c1, Int32.not_lt.mp c1, c2, Int32.not_lt.mpr c2, true_or, or_true, or_self, false_or, or_false, not_true, not_false_eq_true, Classical.not_not, z_10, z_iT, z_iF]
    · skip
      by_cases c3 : m < 1
      · refine z_R2_no z_code4 rfl rfl h_I_ref ?_ ?_ (J_shp_no h_I_ref h_I_sht hb z_code4)
        · show z_cI 62 107 _ _ = _
          rw [E107]
          simp only [M122 z_code4, z_bs, o_6, g_6_5, g_28_6, n1, y_lt7 hn, z_ii, c1, Int32.not_lt.mp c1, c2, Int32.not_le.mp c2, c3, Int32.not_le.mpr c3, true_or, or_true, or_self, false_or, or_false, not_true, not_false_eq_true, Classical.not_not, z_10, z_iT, z_iF]
        · show z_cI 2 189 _ _ = _
          rw [E189]
          simp only [M131 z_code4, z_bs, o_52, z_le34, g_52_28, show (z_no 7 S (-4)) 52 28 = nI n from n2, y_eq7 hn, c1, Int32.not_lt.mp c1, c2, Int32.not_le.mp c2, c3, Int32.not_le.mpr c3, true_or, or_true, or_self, false_or, or_false, not_true, not_false_eq_true, Classical.not_not, z_10, z_iT, z_iF]
      · skip
        by_cases c4 : f < 0
        · refine z_R2_no z_code4 rfl rfl h_I_ref ?_ ?_ (J_shp_no h_I_ref h_I_sht hb z_code4)
          · show z_cI 62 107 _ _ = _
            rw [E107]
            simp only [M122 z_code4, z_bs, o_6, g_6_5, g_28_6, n1, y_lt7 hn, z_ii, c1, Int32.not_lt.mp c1, c2, Int32.not_le.mp c2, c3, Int32.not_lt.mp c3, c4, Int32.not_le.mpr c4, true_or, or_true, or_self, false_or, or_false, not_true, not_false_eq_true, Classical.not_not, z_10, z_iT, z_iF]
          · show z_cI 2 189 _ _ = _
            rw [E189]
            simp only [M131 z_code4, z_bs, o_52, z_le34, g_52_28, show (z_no 7 S (-4)) 52 28 = nI n from n2, y_eq7 hn, c1, Int32.not_lt.mp c1, c2, Int32.not_le.mp c2, c3, Int32.not_lt.mp c3, c4, Int32.not_le.mpr c4, true_or, or_true, or_self, false_or, or_false, not_true, not_false_eq_true, Classical.not_not, z_10, z_iT, z_iF]
        · skip
          by_cases c5 : u < f
          · refine z_R2_no z_code4 rfl rfl h_I_ref ?_ ?_ (J_shp_no h_I_ref h_I_sht hb z_code4)
            · show z_cI 62 107 _ _ = _
              rw [E107]
              simp only [M122 z_code4, z_bs, o_6, g_6_5, g_28_6, n1, y_lt7 hn, z_ii, c1, Int32.not_lt.mp c1, c2, Int32.not_le.mp c2, c3, Int32.not_lt.mp c3, c4, Int32.not_lt.mp c4, c5, Int32.not_le.mpr c5, true_or, or_true, or_self, false_or, or_false, not_true, not_false_eq_true, Classical.not_not, z_10, z_iT, z_iF]
            · show z_cI 2 189 _ _ = _
              rw [E189]
              simp only [M131 z_code4, z_bs, o_52, z_le34, g_52_28, show (z_no 7 S (-4)) 52 28 = nI n from n2, y_eq7 hn, c1, Int32.not_lt.mp c1, c2, Int32.not_le.mp c2, c3, Int32.not_lt.mp c3, c4, Int32.not_lt.mp c4, c5, Int32.not_le.mpr c5, true_or, or_true, or_self, false_or, or_false, not_true, not_false_eq_true, Classical.not_not, z_10, z_iT, z_iF]
          · skip
            have hu : ¬ u < 0 := fun q => by have q1 := z_lt.mp q; have q2 := z_le.mp (Int32.not_lt.mp c5); have q3 := z_le.mp (Int32.not_lt.mp c4); have e0 : (0 : Int32).toInt = 0 := rfl; omega
            by_cases c6 : k < 0
            · refine z_R2_no z_code4 rfl rfl h_I_ref ?_ ?_ (J_shp_no h_I_ref h_I_sht hb z_code4)
              · show z_cI 62 107 _ _ = _
                rw [E107]
                simp only [M122 z_code4, z_bs, o_6, g_6_5, g_28_6, n1, y_lt7 hn, z_ii, c1, Int32.not_lt.mp c1, c2, Int32.not_le.mp c2, c3, Int32.not_lt.mp c3, c4, Int32.not_lt.mp c4, c5, Int32.not_lt.mp c5, hu, c6, Int32.not_le.mpr c6, true_or, or_true, or_self, false_or, or_false, not_true, not_false_eq_true, Classical.not_not, z_10, z_iT, z_iF]
              · show z_cI 2 189 _ _ = _
                rw [E189]
                simp only [M131 z_code4, z_bs, o_52, z_le34, g_52_28, show (z_no 7 S (-4)) 52 28 = nI n from n2, y_eq7 hn, c1, Int32.not_lt.mp c1, c2, Int32.not_le.mp c2, c3, Int32.not_lt.mp c3, c4, Int32.not_lt.mp c4, c5, Int32.not_lt.mp c5, hu, c6, Int32.not_le.mpr c6, true_or, or_true, or_self, false_or, or_false, not_true, not_false_eq_true, Classical.not_not, z_10, z_iT, z_iF]
            · skip
              by_cases c7 : d < 0
              · refine z_R2_no z_code4 rfl rfl h_I_ref ?_ ?_ (J_shp_no h_I_ref h_I_sht hb z_code4)
                · show z_cI 62 107 _ _ = _
                  rw [E107]
                  simp only [M122 z_code4, z_bs, o_6, g_6_5, g_28_6, n1, y_lt7 hn, z_ii, c1, Int32.not_lt.mp c1, c2, Int32.not_le.mp c2, c3, Int32.not_lt.mp c3, c4, Int32.not_lt.mp c4, c5, Int32.not_lt.mp c5, hu, c6, Int32.not_lt.mp c6, c7, Int32.not_le.mpr c7, true_or, or_true, or_self, false_or, or_false, not_true, not_false_eq_true, Classical.not_not, z_10, z_iT, z_iF]
                · show z_cI 2 189 _ _ = _
                  rw [E189]
                  simp only [M131 z_code4, z_bs, o_52, z_le34, g_52_28, show (z_no 7 S (-4)) 52 28 = nI n from n2, y_eq7 hn, c1, Int32.not_lt.mp c1, c2, Int32.not_le.mp c2, c3, Int32.not_lt.mp c3, c4, Int32.not_lt.mp c4, c5, Int32.not_lt.mp c5, hu, c6, Int32.not_lt.mp c6, c7, Int32.not_le.mpr c7, true_or, or_true, or_self, false_or, or_false, not_true, not_false_eq_true, Classical.not_not, z_10, z_iT, z_iF]
              · skip
                by_cases c8 : 300 < m
                · refine z_R2_no z_code6 rfl rfl h_I_ref ?_ ?_ (J_shp_no h_I_ref h_I_sht hb z_code6)
                  · show z_cI 62 107 _ _ = _
                    rw [E107]
                    simp only [M122 z_code6, z_bs, o_6, g_6_5, g_28_6, n1, y_lt7 hn, z_ii, c1, Int32.not_lt.mp c1, c2, Int32.not_le.mp c2, c3, Int32.not_lt.mp c3, c4, Int32.not_lt.mp c4, c5, Int32.not_lt.mp c5, hu, c6, Int32.not_lt.mp c6, c7, Int32.not_lt.mp c7, c8, Int32.not_le.mpr c8, true_or, or_true, or_self, false_or, or_false, not_true, not_false_eq_true, Classical.not_not, z_10, z_iT, z_iF]
                  · show z_cI 2 189 _ _ = _
                    rw [E189]
                    simp only [M131 z_code6, z_bs, o_52, z_le34, g_52_28, show (z_no 7 S (-6)) 52 28 = nI n from n2, y_eq7 hn, c1, Int32.not_lt.mp c1, c2, Int32.not_le.mp c2, c3, Int32.not_lt.mp c3, c4, Int32.not_lt.mp c4, c5, Int32.not_lt.mp c5, hu, c6, Int32.not_lt.mp c6, c7, Int32.not_lt.mp c7, c8, Int32.not_le.mpr c8, true_or, or_true, or_self, false_or, or_false, not_true, not_false_eq_true, Classical.not_not, z_10, z_iT, z_iF]
                · skip
                  by_cases c9 : 999 < f
                  · refine z_R2_no z_code6 rfl rfl h_I_ref ?_ ?_ (J_shp_no h_I_ref h_I_sht hb z_code6)
                    · show z_cI 62 107 _ _ = _
                      rw [E107]
                      simp only [M122 z_code6, z_bs, o_6, g_6_5, g_28_6, n1, y_lt7 hn, z_ii, c1, Int32.not_lt.mp c1, c2, Int32.not_le.mp c2, c3, Int32.not_lt.mp c3, c4, Int32.not_lt.mp c4, c5, Int32.not_lt.mp c5, hu, c6, Int32.not_lt.mp c6, c7, Int32.not_lt.mp c7, c8, Int32.not_lt.mp c8, c9, Int32.not_le.mpr c9, true_or, or_true, or_self, false_or, or_false, not_true, not_false_eq_true, Classical.not_not, z_10, z_iT, z_iF]
                    · show z_cI 2 189 _ _ = _
                      rw [E189]
                      simp only [M131 z_code6, z_bs, o_52, z_le34, g_52_28, show (z_no 7 S (-6)) 52 28 = nI n from n2, y_eq7 hn, c1, Int32.not_lt.mp c1, c2, Int32.not_le.mp c2, c3, Int32.not_lt.mp c3, c4, Int32.not_lt.mp c4, c5, Int32.not_lt.mp c5, hu, c6, Int32.not_lt.mp c6, c7, Int32.not_lt.mp c7, c8, Int32.not_lt.mp c8, c9, Int32.not_le.mpr c9, true_or, or_true, or_self, false_or, or_false, not_true, not_false_eq_true, Classical.not_not, z_10, z_iT, z_iF]
                  · skip
                    by_cases c10 : 999 < u
                    · refine z_R2_no z_code6 rfl rfl h_I_ref ?_ ?_ (J_shp_no h_I_ref h_I_sht hb z_code6)
                      · show z_cI 62 107 _ _ = _
                        rw [E107]
                        simp only [M122 z_code6, z_bs, o_6, g_6_5, g_28_6, n1, y_lt7 hn, z_ii, c1, Int32.not_lt.mp c1, c2, Int32.not_le.mp c2, c3, Int32.not_lt.mp c3, c4, Int32.not_lt.mp c4, c5, Int32.not_lt.mp c5, hu, c6, Int32.not_lt.mp c6, c7, Int32.not_lt.mp c7, c8, Int32.not_lt.mp c8, c9, Int32.not_lt.mp c9, c10, Int32.not_le.mpr c10, true_or, or_true, or_self, false_or, or_false, not_true, not_false_eq_true, Classical.not_not, z_10, z_iT, z_iF]
                      · show z_cI 2 189 _ _ = _
                        rw [E189]
                        simp only [M131 z_code6, z_bs, o_52, z_le34, g_52_28, show (z_no 7 S (-6)) 52 28 = nI n from n2, y_eq7 hn, c1, Int32.not_lt.mp c1, c2, Int32.not_le.mp c2, c3, Int32.not_lt.mp c3, c4, Int32.not_lt.mp c4, c5, Int32.not_lt.mp c5, hu, c6, Int32.not_lt.mp c6, c7, Int32.not_lt.mp c7, c8, Int32.not_lt.mp c8, c9, Int32.not_lt.mp c9, c10, Int32.not_le.mpr c10, true_or, or_true, or_self, false_or, or_false, not_true, not_false_eq_true, Classical.not_not, z_10, z_iT, z_iF]
                    · skip
                      by_cases c11 : 999 < k
                      · refine z_R2_no z_code6 rfl rfl h_I_ref ?_ ?_ (J_shp_no h_I_ref h_I_sht hb z_code6)
                        · show z_cI 62 107 _ _ = _
                          rw [E107]
                          simp only [M122 z_code6, z_bs, o_6, g_6_5, g_28_6, n1, y_lt7 hn, z_ii, c1, Int32.not_lt.mp c1, c2, Int32.not_le.mp c2, c3, Int32.not_lt.mp c3, c4, Int32.not_lt.mp c4, c5, Int32.not_lt.mp c5, hu, c6, Int32.not_lt.mp c6, c7, Int32.not_lt.mp c7, c8, Int32.not_lt.mp c8, c9, Int32.not_lt.mp c9, c10, Int32.not_lt.mp c10, c11, Int32.not_le.mpr c11, true_or, or_true, or_self, false_or, or_false, not_true, not_false_eq_true, Classical.not_not, z_10, z_iT, z_iF]
                        · show z_cI 2 189 _ _ = _
                          rw [E189]
                          simp only [M131 z_code6, z_bs, o_52, z_le34, g_52_28, show (z_no 7 S (-6)) 52 28 = nI n from n2, y_eq7 hn, c1, Int32.not_lt.mp c1, c2, Int32.not_le.mp c2, c3, Int32.not_lt.mp c3, c4, Int32.not_lt.mp c4, c5, Int32.not_lt.mp c5, hu, c6, Int32.not_lt.mp c6, c7, Int32.not_lt.mp c7, c8, Int32.not_lt.mp c8, c9, Int32.not_lt.mp c9, c10, Int32.not_lt.mp c10, c11, Int32.not_le.mpr c11, true_or, or_true, or_self, false_or, or_false, not_true, not_false_eq_true, Classical.not_not, z_10, z_iT, z_iF]
                      · skip
                        by_cases c12 : 99 < d
                        · refine z_R2_no z_code6 rfl rfl h_I_ref ?_ ?_ (J_shp_no h_I_ref h_I_sht hb z_code6)
                          · show z_cI 62 107 _ _ = _
                            rw [E107]
                            simp only [M122 z_code6, z_bs, o_6, g_6_5, g_28_6, n1, y_lt7 hn, z_ii, c1, Int32.not_lt.mp c1, c2, Int32.not_le.mp c2, c3, Int32.not_lt.mp c3, c4, Int32.not_lt.mp c4, c5, Int32.not_lt.mp c5, hu, c6, Int32.not_lt.mp c6, c7, Int32.not_lt.mp c7, c8, Int32.not_lt.mp c8, c9, Int32.not_lt.mp c9, c10, Int32.not_lt.mp c10, c11, Int32.not_lt.mp c11, c12, Int32.not_le.mpr c12, true_or, or_true, or_self, false_or, or_false, not_true, not_false_eq_true, Classical.not_not, z_10, z_iT, z_iF]
                          · show z_cI 2 189 _ _ = _
                            rw [E189]
                            simp only [M131 z_code6, z_bs, o_52, z_le34, g_52_28, show (z_no 7 S (-6)) 52 28 = nI n from n2, y_eq7 hn, c1, Int32.not_lt.mp c1, c2, Int32.not_le.mp c2, c3, Int32.not_lt.mp c3, c4, Int32.not_lt.mp c4, c5, Int32.not_lt.mp c5, hu, c6, Int32.not_lt.mp c6, c7, Int32.not_lt.mp c7, c8, Int32.not_lt.mp c8, c9, Int32.not_lt.mp c9, c10, Int32.not_lt.mp c10, c11, Int32.not_lt.mp c11, c12, Int32.not_le.mpr c12, true_or, or_true, or_self, false_or, or_false, not_true, not_false_eq_true, Classical.not_not, z_10, z_iT, z_iF]
                        · skip
                          by_cases c13 : 7 ≤ n
                          · refine z_R2_no z_code6 rfl rfl h_I_ref ?_ ?_ (J_shp_no h_I_ref h_I_sht hb z_code6)
                            · show z_cI 62 107 _ _ = _
                              rw [E107]
                              simp only [M122 z_code6, z_bs, o_6, g_6_5, g_28_6, n1, y_lt7 hn, z_ii, c1, Int32.not_lt.mp c1, c2, Int32.not_le.mp c2, c3, Int32.not_lt.mp c3, c4, Int32.not_lt.mp c4, c5, Int32.not_lt.mp c5, hu, c6, Int32.not_lt.mp c6, c7, Int32.not_lt.mp c7, c8, Int32.not_lt.mp c8, c9, Int32.not_lt.mp c9, c10, Int32.not_lt.mp c10, c11, Int32.not_lt.mp c11, c12, Int32.not_lt.mp c12, c13, true_or, or_true, or_self, false_or, or_false, not_true, not_false_eq_true, Classical.not_not, z_10, z_iT, z_iF]
                            · show z_cI 2 189 _ _ = _
                              rw [E189]
                              simp only [M131 z_code6, z_bs, o_52, z_le34, g_52_28, show (z_no 7 S (-6)) 52 28 = nI n from n2, y_eq7 hn, c1, Int32.not_lt.mp c1, c2, Int32.not_le.mp c2, c3, Int32.not_lt.mp c3, c4, Int32.not_lt.mp c4, c5, Int32.not_lt.mp c5, hu, c6, Int32.not_lt.mp c6, c7, Int32.not_lt.mp c7, c8, Int32.not_lt.mp c8, c9, Int32.not_lt.mp c9, c10, Int32.not_lt.mp c10, c11, Int32.not_lt.mp c11, c12, Int32.not_lt.mp c12, c13, true_or, or_true, or_self, false_or, or_false, not_true, not_false_eq_true, Classical.not_not, z_10, z_iT, z_iF]
                          · skip
                            have hn7 : n < 7 := by omega
                            have i1 : z_in (nI n) 7 = true := z_in_nI hn7 (by decide)
                            have i2 : (nI n).toNatClampNeg = n := z_cl (by omega)
                            have x1 : nI (n + 1) - 1 = nI n := (z_nI_sub (a := n + 1) (b := 1) (by omega))
                            obtain ⟨S0, hS0⟩ : ∃ S0, S0 = z_ups (z_ups (z_ups (z_ups (z_ups (z_ups (z_ups (z_ups (S) 29 n t) 30 n m) 31 n f) 32 n u) 33 n k) 34 n d) 28 6 (nI (n + 1))) 28 9 0 := ⟨_, rfl⟩
                            have s0 : ∀ b, b ≠ 28 → (b < 29 ∨ 34 < b) → S0 b = S b := fun b q1 q2 => by rw [hS0, z_ups_ne q1, z_ups_ne q1, z_ups_ne (by omega), z_ups_ne (by omega), z_ups_ne (by omega), z_ups_ne (by omega), z_ups_ne (by omega), z_ups_ne (by omega)]
                            have s028 : ∀ q, q ≠ 6 → q ≠ 9 → S0 28 q = S 28 q := fun q q1 q2 => by rw [hS0, z_upsK q2, z_upsK q1, z_ups_ne (by decide), z_ups_ne (by decide), z_ups_ne (by decide), z_ups_ne (by decide), z_ups_ne (by decide), z_ups_ne (by decide)]
                            have s06 : S0 28 6 = nI (n + 1) := by rw [hS0, z_upsK (by decide), z_upsS]
                            have s09 : S0 28 9 = 0 := by rw [hS0, z_upsS]
                            have r0 : ∀ j, S0 29 j = if j = n then t else S 29 j := fun j => by rw [hS0, z_ups_ne (by decide), z_ups_ne (by decide), z_ups_ne (by decide), z_ups_ne (by decide), z_ups_ne (by decide), z_ups_ne (by decide), z_ups_ne (by decide), z_upsE, if_pos rfl]
                            have r1 : ∀ j, S0 30 j = if j = n then m else S 30 j := fun j => by rw [hS0, z_ups_ne (by decide), z_ups_ne (by decide), z_ups_ne (by decide), z_ups_ne (by decide), z_ups_ne (by decide), z_ups_ne (by decide), z_upsE, if_pos rfl, z_ups_ne (by decide)]
                            have r2 : ∀ j, S0 31 j = if j = n then f else S 31 j := fun j => by rw [hS0, z_ups_ne (by decide), z_ups_ne (by decide), z_ups_ne (by decide), z_ups_ne (by decide), z_ups_ne (by decide), z_upsE, if_pos rfl, z_ups_ne (by decide), z_ups_ne (by decide)]
                            have r3 : ∀ j, S0 32 j = if j = n then u else S 32 j := fun j => by rw [hS0, z_ups_ne (by decide), z_ups_ne (by decide), z_ups_ne (by decide), z_ups_ne (by decide), z_upsE, if_pos rfl, z_ups_ne (by decide), z_ups_ne (by decide), z_ups_ne (by decide)]
                            have r4 : ∀ j, S0 33 j = if j = n then k else S 33 j := fun j => by rw [hS0, z_ups_ne (by decide), z_ups_ne (by decide), z_ups_ne (by decide), z_upsE, if_pos rfl, z_ups_ne (by decide), z_ups_ne (by decide), z_ups_ne (by decide), z_ups_ne (by decide)]
                            have r5 : ∀ j, S0 34 j = if j = n then d else S 34 j := fun j => by rw [hS0, z_ups_ne (by decide), z_ups_ne (by decide), z_upsE, if_pos rfl, z_ups_ne (by decide), z_ups_ne (by decide), z_ups_ne (by decide), z_ups_ne (by decide), z_ups_ne (by decide)]
                            have hDc : y_Dc (y_Dr S0) (n + 1) S0 := ⟨s06, fun s hs => ⟨rfl, rfl, rfl, rfl, rfl, rfl⟩⟩
                            obtain ⟨S1, e1, e2, e3, e4⟩ := M19 (L := L) (Dh := Dh) (R := R) (nx := nx) (sl := sl) (D := y_Dr S0) (show n + 1 ≤ 7 by omega) (n + 1) (48 - (n + 1)) 0 [] 0 0 S0 none (by rw [List.length_nil]; omega) hDc (y_us_0 _) rfl (fun i hi => absurd hi (Nat.not_lt_zero _)) s09
                            rw [show 48 - (n + 1) + (n + 1) + 12 = 60 by omega] at e1
                            have e1' : z_cV 60 19 [.inr (.inr (some 28)), .inl (0 : Int32), .inl (0 : Int32), .inl (0 : Int32), .inl (0 : Int32)] (z_mk L Dh S0 R nx sl) = some (z_mk L Dh S1 R nx sl) := e1
                            have b16 : S1 28 6 = nI (n + 1) := (e4.2 6 (by decide) (by decide) (by decide)).trans s06
                            have hbst : I_bst S1 := by
                              refine ⟨n + 1, by omega, b16, ?_⟩
                              rw [y_bst_c (D := y_Dr S0) (D' := y_Dr S1) (fun k hk => e4.1 (29 + k) (by omega) (by omega) (by omega)) (n + 1)]
                              exact e2
                            have s1 : ∀ b, b ≠ 28 → (b < 29 ∨ 36 < b) → S1 b = S b := fun b q1 q2 => by rw [e4.1 b q1 (by omega) (by omega), s0 b q1 (by omega)]
                            have m28 : S1 52 28 = nI n := by rw [s1 52 (by decide) (by omega)]; exact n2
                            obtain ⟨F, hF⟩ : ∃ F, F = z_ups (z_ups (z_ups (z_ups (z_ups (z_ups (z_ups (S1) 73 (n * 6 + 0) t) 73 (n * 6 + 1) m) 73 (n * 6 + 2) f) 73 (n * 6 + 3) u) 73 (n * 6 + 4) k) 73 (n * 6 + 5) d) 52 28 (nI (n + 1)) := ⟨_, rfl⟩
                            have fin : ∀ b, b ≠ 73 → b ≠ 52 → F b = S1 b := fun b q1 q2 => by rw [hF, z_ups_ne q2, z_ups_ne q1, z_ups_ne q1, z_ups_ne q1, z_ups_ne q1, z_ups_ne q1, z_ups_ne q1]
                            have f28 : F 52 28 = nI (n + 1) := by rw [hF, z_upsS]
                            have f52 : ∀ q, q ≠ 28 → F 52 q = S 52 q := fun q hq => by rw [hF, z_upsK hq, z_ups_ne (by decide), z_ups_ne (by decide), z_ups_ne (by decide), z_ups_ne (by decide), z_ups_ne (by decide), z_ups_ne (by decide), s1 52 (by decide) (by omega)]
                            have f73 : ∀ q, F 73 q = if q = n * 6 + 5 then d else if q = n * 6 + 4 then k else if q = n * 6 + 3 then u else if q = n * 6 + 2 then f else if q = n * 6 + 1 then m else if q = n * 6 + 0 then t else S 73 q := fun q => by rw [hF, z_ups_ne (by decide), z_upsE, if_pos rfl, z_upsE, if_pos rfl, z_upsE, if_pos rfl, z_upsE, if_pos rfl, z_upsE, if_pos rfl, z_upsE, if_pos rfl, s1 73 (by decide) (by omega)]
                            have e0 : (0 : Int32).toInt = 0 := rfl
                            have e1i : (1 : Int32).toInt = 1 := rfl
                            have e300 : (300 : Int32).toInt = 300 := rfl
                            have e999 : (999 : Int32).toInt = 999 := rfl
                            have e99 : (99 : Int32).toInt = 99 := rfl
                            have g3 := z_le.mp (Int32.not_lt.mp c3)
                            have g4 := z_le.mp (Int32.not_lt.mp c4)
                            have g5 := z_le.mp (Int32.not_lt.mp c5)
                            have g6 := z_le.mp (Int32.not_lt.mp c6)
                            have g7 := z_le.mp (Int32.not_lt.mp c7)
                            have g8 := z_le.mp (Int32.not_lt.mp c8)
                            have g9 := z_le.mp (Int32.not_lt.mp c9)
                            have g10 := z_le.mp (Int32.not_lt.mp c10)
                            have g11 := z_le.mp (Int32.not_lt.mp c11)
                            have g12 := z_le.mp (Int32.not_lt.mp c12)
                            refine ⟨nI n, S1, F, ?_, ?_, ⟨fun b hb h52 => ?_, fun q hq => ?_⟩, ?_, ⟨n + 1, by omega, ?_, f28, fun i hi => ?_⟩, ?_, fun q q1 q2 q3 q4 => ?_⟩
                            · show z_cI 62 107 _ _ = _
                              rw [E107]
                              simp only [o_6, g_6_5, g_28_6, n1, y_lt7 hn, z_ii, z_bs, c1, Int32.not_lt.mp c1, c2, Int32.not_le.mp c2, c3, Int32.not_lt.mp c3, c4, Int32.not_lt.mp c4, c5, Int32.not_lt.mp c5, hu, c6, Int32.not_lt.mp c6, c7, Int32.not_lt.mp c7, c8, Int32.not_lt.mp c8, c9, Int32.not_lt.mp c9, c10, Int32.not_lt.mp c10, c11, Int32.not_lt.mp c11, c12, Int32.not_lt.mp c12, c13, true_or, or_true, or_self, false_or, or_false, not_true, not_false_eq_true, Classical.not_not, z_10, z_iT, z_iF, o_28]
                              rw [E17]
                              simp only [g_28_0, g_28_1, g_28_2, g_28_3, g_28_4, g_28_5, g_28_6, z_bs, n1, s_29 i1, s_30 i1, s_31 i1, s_32 i1, s_33 i1, s_34 i1, i2, z_ups_ne (show (28 : Nat) ≠ 29 by decide), z_ups_ne (show (28 : Nat) ≠ 30 by decide), z_ups_ne (show (28 : Nat) ≠ 31 by decide), z_ups_ne (show (28 : Nat) ≠ 32 by decide), z_ups_ne (show (28 : Nat) ≠ 33 by decide), z_ups_ne (show (28 : Nat) ≠ 34 by decide), p_28_6, nI_1, p_28_9 0 (Or.inl rfl), o_28]
                              rw [← hS0, e1']
                              simp only [z_bs, g_28_6, b16, x1]
                            · show z_cI 2 189 _ _ = _
                              rw [E189, hF]
                              simp only [o_52, z_le34, g_52_28, m28, y_eq7 hn, z_bs, c1, Int32.not_lt.mp c1, c2, Int32.not_le.mp c2, c3, Int32.not_lt.mp c3, c4, Int32.not_lt.mp c4, c5, Int32.not_lt.mp c5, hu, c6, Int32.not_lt.mp c6, c7, Int32.not_lt.mp c7, c8, Int32.not_lt.mp c8, c9, Int32.not_lt.mp c9, c10, Int32.not_lt.mp c10, c11, Int32.not_lt.mp c11, c12, Int32.not_lt.mp c12, c13, true_or, or_true, or_self, false_or, or_false, not_true, not_false_eq_true, Classical.not_not, z_10, z_iT, z_iF, g_52_29, z_st73_0 hn7, z_st73_1 hn7, z_st73_2 hn7, z_st73_3 hn7, z_st73_4 hn7, z_st73_5 hn7, z_ups_ne (show (52 : Nat) ≠ 73 by decide), p_52_28, nI_1, z_upsS, x1]
                            · have hb := of_decide_eq_false hb
                              rw [fin b (fun q => hb (by rw [q]; decide)) h52]
                              refine s1 b (fun q => hb (by rw [q]; decide)) ?_
                              rcases Nat.lt_or_ge b 29 with q | q
                              · exact Or.inl q
                              · refine Or.inr (Nat.lt_of_not_le fun q2 => ?_)
                                rcases (show b = 29 ∨ b = 30 ∨ b = 31 ∨ b = 32 ∨ b = 33 ∨ b = 34 ∨ b = 35 ∨ b = 36 by omega) with q | q | q | q | q | q | q | q <;> exact hb (by rw [q]; decide)
                            · have hq := of_decide_eq_false hq
                              exact f52 q (fun w => hq (by rw [w]; decide))
                            · exact I_ref_fr h_I_ref ⟨by rw [fin 7 (by decide) (by decide), s1 7 (by decide) (by omega)], by rw [fin 86 (by decide) (by decide), s1 86 (by decide) (by omega)]⟩
                            · rw [fin 28 (by decide) (by decide)]; exact b16
                            · rw [fin 29 (by decide) (by decide), fin 30 (by decide) (by decide), fin 31 (by decide) (by decide), fin 32 (by decide) (by decide), fin 33 (by decide) (by decide), fin 34 (by decide) (by decide), e4.1 29 (by decide) (by decide) (by decide), e4.1 30 (by decide) (by decide) (by decide), e4.1 31 (by decide) (by decide) (by decide), e4.1 32 (by decide) (by decide) (by decide), e4.1 33 (by decide) (by decide) (by decide), e4.1 34 (by decide) (by decide) (by decide), r0, r1, r2, r3, r4, r5, f73, f73, f73, f73, f73, f73]
                              by_cases q : i = n
                              · subst q
                                repeat rw [if_pos rfl]
                                rw [if_neg (show ¬ i * 6 + 0 = i * 6 + 5 by omega), if_neg (show ¬ i * 6 + 0 = i * 6 + 4 by omega), if_neg (show ¬ i * 6 + 0 = i * 6 + 3 by omega), if_neg (show ¬ i * 6 + 0 = i * 6 + 2 by omega), if_neg (show ¬ i * 6 + 0 = i * 6 + 1 by omega), if_neg (show ¬ i * 6 + 1 = i * 6 + 5 by omega), if_neg (show ¬ i * 6 + 1 = i * 6 + 4 by omega), if_neg (show ¬ i * 6 + 1 = i * 6 + 3 by omega), if_neg (show ¬ i * 6 + 1 = i * 6 + 2 by omega), if_neg (show ¬ i * 6 + 2 = i * 6 + 5 by omega), if_neg (show ¬ i * 6 + 2 = i * 6 + 4 by omega), if_neg (show ¬ i * 6 + 2 = i * 6 + 3 by omega), if_neg (show ¬ i * 6 + 3 = i * 6 + 5 by omega), if_neg (show ¬ i * 6 + 3 = i * 6 + 4 by omega), if_neg (show ¬ i * 6 + 4 = i * 6 + 5 by omega)]
                                repeat rw [if_pos rfl]
                                exact ⟨rfl, rfl, rfl, rfl, rfl, rfl, by omega, by omega, by omega, by omega, by omega, by omega, by omega, by omega, by omega⟩
                              · repeat rw [if_neg (by omega)]
                                exact n3 i (by omega)
                            · refine I_bst_fr hbst ⟨fun q _ => by rw [fin 28 (by decide) (by decide)], fun k hk => fin (29 + k) (by omega) (by omega), fin 36 (by decide) (by decide)⟩
                            · rw [fin 28 (by decide) (by decide), e4.2 q q2 q3 q4, s028 q q1 q2]
end ZTA
