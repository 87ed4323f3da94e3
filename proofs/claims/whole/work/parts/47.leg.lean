section ZSJ
variable {L : Nat} {Dh : Nat → z_Sh} {S : Nat → Nat → Int32} {R : Nat → Nat → Option Nat} {nx sl : Nat}
variable {ms : List y_Mv} {ad : Nat → Nat}
theorem z_le78 (d : Int32) : (d ≤ 7) = ¬ (8 ≤ d) := propext ⟨fun h q => by have a := z_le.mp h; have b := z_le.mp q; have e1 : (7 : Int32).toInt = 7 := rfl; have e2 : (8 : Int32).toInt = 8 := rfl; omega, fun h => z_le.mpr (by have b := z_lt.mp (Int32.not_le.mp h); have e1 : (7 : Int32).toInt = 7 := rfl; have e2 : (8 : Int32).toInt = 8 := rfl; omega)⟩
theorem z_lt19 (d : Int32) : (19 < d) = (20 ≤ d) := propext ⟨fun h => z_le.mpr (by have a := z_lt.mp h; have e1 : (19 : Int32).toInt = 19 := rfl; have e2 : (20 : Int32).toInt = 20 := rfl; omega), fun h => z_lt.mpr (by have b := z_le.mp h; have e1 : (19 : Int32).toInt = 19 := rfl; have e2 : (20 : Int32).toInt = 20 := rfl; omega)⟩
theorem z_0m1 : ((0 : Int32) ≤ -1) = False := eq_false (by decide)
theorem y_lt10 {n : Nat} (h : n ≤ 10) : (nI n < 10) = ¬ (10 ≤ n) := propext ⟨fun h q => by have a := z_lt.mp h; rw [z_nI (by omega)] at a; have e1 : (10 : Int32).toInt = 10 := rfl; omega, fun q => z_lt.mpr (by rw [z_nI (by omega)]; have e1 : (10 : Int32).toInt = 10 := rfl; omega)⟩
theorem y_eq10 {n : Nat} (h : n ≤ 10) : (nI n = 10) = (10 ≤ n) := propext ⟨fun q => by have a := z_eq.mp q; rw [z_nI (by omega)] at a; have e1 : (10 : Int32).toInt = 10 := rfl; omega, fun q => z_eq.mpr (by rw [z_nI (by omega)]; have e1 : (10 : Int32).toInt = 10 := rfl; omega)⟩
theorem z_upsS {a k : Nat} {x : Int32} : z_ups S a k x a k = x := by rw [z_upsE, if_pos rfl, if_pos rfl]
theorem z_upsK {a k j : Nat} {x : Int32} (h : j ≠ k) : z_ups S a k x a j = S a j := by rw [z_upsE, if_pos rfl, if_neg h]
/-- a leg more in the model's row -/
def y_u62 (S : Nat → Nat → Int32) (q : Nat) (g : y_Lg) : Nat → Nat → Int32 := z_ups (z_ups (z_ups (z_ups S 62 (q * 4 + 0) (nI g.1)) 62 (q * 4 + 1) (nI g.2.1)) 62 (q * 4 + 2) (nI g.2.2.1)) 62 (q * 4 + 3) (nI g.2.2.2)
theorem y_u62_ne {q b : Nat} {g : y_Lg} (h : b ≠ 62) : y_u62 S q g b = S b := by unfold y_u62; rw [z_ups_ne h, z_ups_ne h, z_ups_ne h, z_ups_ne h]
theorem y_u62_o {q p r : Nat} {g : y_Lg} (h : p ≠ q) (hr : r < 4) : y_u62 S q g 62 (p * 4 + r) = S 62 (p * 4 + r) := by
  unfold y_u62
  rw [z_upsE, if_pos rfl, if_neg (by omega), z_upsE, if_pos rfl, if_neg (by omega), z_upsE, if_pos rfl, if_neg (by omega), z_upsE, if_pos rfl, if_neg (by omega)]
theorem y_u62_s {q : Nat} {g : y_Lg} : y_u62 S q g 62 (q * 4 + 0) = nI g.1 ∧ y_u62 S q g 62 (q * 4 + 1) = nI g.2.1 ∧ y_u62 S q g 62 (q * 4 + 2) = nI g.2.2.1 ∧ y_u62 S q g 62 (q * 4 + 3) = nI g.2.2.2 := by
  unfold y_u62
  refine ⟨?_, ?_, ?_, ?_⟩
  · rw [z_upsE, if_pos rfl, if_neg (by omega), z_upsE, if_pos rfl, if_neg (by omega), z_upsE, if_pos rfl, if_neg (by omega), z_upsE, if_pos rfl, if_pos rfl]
  · rw [z_upsE, if_pos rfl, if_neg (by omega), z_upsE, if_pos rfl, if_neg (by omega), z_upsE, if_pos rfl, if_pos rfl]
  · rw [z_upsE, if_pos rfl, if_neg (by omega), z_upsE, if_pos rfl, if_pos rfl]
  · rw [z_upsE, if_pos rfl, if_pos rfl]

theorem S_leg (h_I_ref : I_ref S) (hD : I_dir S) (J : J_mov ms ad Dh S R nx) (H : J_hit ms S) {kk : Nat} (hkk : kk < 100000) (E : J_ed kk ms S) (x d c p w : Int32) : z_R2 (fun h => z_cI 5 84 [.inr (.inr (some 6)), .inl x, .inl d, .inl c, .inl p, .inl w] h) (fun h => z_cI 3 142 [.inr (.inr (some 52)), .inl x, .inl d, .inl c, .inl p, .inl w] h) L Dh S R nx sl A_mv K_mv (J_post kk ad Dh R nx S) := by
  have h12' := J.1
  by_cases d1 : x < 0 ∨ nI ms.length ≤ x
  · refine z_R2_no z_code1 rfl rfl h_I_ref ?_ ?_ (J_post_no h_I_ref J H E z_code1)
    · show z_cI 5 84 _ _ = _
      rw [E84]
      simp only [g_6_1, o_8, M43x J d1, z_bs, z_nulN, z_tt, z_iT, o_6, M122 z_code1]
    · show z_cI 3 142 _ _ = _
      rw [E142]
      simp only [o_52, z_bs, M133 (show z_no 7 S (-1) 52 2 = nI ms.length from J.2.2.1), d1, z_iT, z_e00, not_true, z_iF, M131 z_code1]
  · obtain ⟨i, hi, rfl⟩ := z_plc (by omega) (fun q => d1 (Or.inl q)) (fun q => d1 (Or.inr q))
    obtain ⟨k1, k2, k3, k4, k5⟩ := J.2.2.2.1 i hi
    have h12 : i < 12 := by omega
    have h87 := k4.1.1
    have i1 : z_in (nI i) 12 = true := z_in_nI h12 (by decide)
    have i2 : (nI i).toNatClampNeg = i := z_cl (by omega)
    have kf : y_cM Dh R (y_fgo S i 12) (ad i) ms[i] := y_cM_fr k4 (fun b hb _ => y_fgo_ne (by omega))
    have hDf : I_dir (y_fgo S i 12) := I_dir_fr hD ⟨y_fgo_ne (by decide), y_fgo_ne (by decide)⟩
    have h10 := k3.2.2.2.2.2.1
    have l5 : S (ad i) 5 = nI (ms[i]).2.2.2.2.2.length := k4.2.2.2.2.2.2.1.2.1
    have l6 : S (ad i) 6 = nI (y_en ms[i]) := k4.2.2.2.2.2.2.2.1
    have hen : y_en ms[i] < 400 := y_end_lt _ k3.2.2.1 k3.2.2.2.2.2.2
    by_cases c1 : d < 0
    · refine z_R2_no z_code2 rfl rfl h_I_ref ?_ ?_ (J_post_no h_I_ref J H E z_code2)
      · show z_cI 5 84 _ _ = _
        rw [E84]
        simp only [M122 z_code2, z_bs, g_6_1, o_8, o_6, M43n J hi, z_nulS (show 6 ≤ ad i by omega), z_ff, M124, y_g5 k4.1, y_ob k4.1, l5, y_lt10 h10, c1, Int32.not_le.mpr c1, true_or, or_true, or_self, false_or, or_false, not_true, not_false_eq_true, Classical.not_not, z_10, z_iT, z_iF]
      · show z_cI 3 142 _ _ = _
        rw [E142]
        simp only [M131 z_code2, z_bs, o_52, M133 (S := (z_no 7 S (-2))) (n := ms.length) (show (z_no 7 S (-2)) 52 2 = nI ms.length from J.2.2.1), d1, z_le78, z_lt19, g_52_8, l_60 i1, i2, show (z_no 7 S (-2)) 60 i = nI (ms[i]).2.2.2.2.2.length from k5.2.2.2.2.2.1, y_eq10 h10, z_ff, z_tt, c1, Int32.not_le.mpr c1, true_or, or_true, or_self, false_or, or_false, not_true, not_false_eq_true, Classical.not_not, z_10, z_iT, z_iF]
    · skip
      by_cases c2 : 8 ≤ d
      · refine z_R2_no z_code2 rfl rfl h_I_ref ?_ ?_ (J_post_no h_I_ref J H E z_code2)
        · show z_cI 5 84 _ _ = _
          rw [E84]
          simp only [M122 z_code2, z_bs, g_6_1, o_8, o_6, M43n J hi, z_nulS (show 6 ≤ ad i by omega), z_ff, M124, y_g5 k4.1, y_ob k4.1, l5, y_lt10 h10, c1, Int32.not_lt.mp c1, c2, Int32.not_lt.mpr c2, true_or, or_true, or_self, false_or, or_false, not_true, not_false_eq_true, Classical.not_not, z_10, z_iT, z_iF]
        · show z_cI 3 142 _ _ = _
          rw [E142]
          simp only [M131 z_code2, z_bs, o_52, M133 (S := (z_no 7 S (-2))) (n := ms.length) (show (z_no 7 S (-2)) 52 2 = nI ms.length from J.2.2.1), d1, z_le78, z_lt19, g_52_8, l_60 i1, i2, show (z_no 7 S (-2)) 60 i = nI (ms[i]).2.2.2.2.2.length from k5.2.2.2.2.2.1, y_eq10 h10, z_ff, z_tt, c1, Int32.not_lt.mp c1, c2, Int32.not_lt.mpr c2, true_or, or_true, or_self, false_or, or_false, not_true, not_false_eq_true, Classical.not_not, z_10, z_iT, z_iF]
      · skip
        by_cases c3 : c < 1
        · refine z_R2_no z_code4 rfl rfl h_I_ref ?_ ?_ (J_post_no h_I_ref J H E z_code4)
          · show z_cI 5 84 _ _ = _
            rw [E84]
            simp only [M122 z_code4, z_bs, g_6_1, o_8, o_6, M43n J hi, z_nulS (show 6 ≤ ad i by omega), z_ff, M124, y_g5 k4.1, y_ob k4.1, l5, y_lt10 h10, c1, Int32.not_lt.mp c1, c2, Int32.not_le.mp c2, c3, Int32.not_le.mpr c3, true_or, or_true, or_self, false_or, or_false, not_true, not_false_eq_true, Classical.not_not, z_10, z_iT, z_iF]
          · show z_cI 3 142 _ _ = _
            rw [E142]
            simp only [M131 z_code4, z_bs, o_52, M133 (S := (z_no 7 S (-4))) (n := ms.length) (show (z_no 7 S (-4)) 52 2 = nI ms.length from J.2.2.1), d1, z_le78, z_lt19, g_52_8, l_60 i1, i2, show (z_no 7 S (-4)) 60 i = nI (ms[i]).2.2.2.2.2.length from k5.2.2.2.2.2.1, y_eq10 h10, z_ff, z_tt, c1, Int32.not_lt.mp c1, c2, Int32.not_le.mp c2, c3, Int32.not_le.mpr c3, true_or, or_true, or_self, false_or, or_false, not_true, not_false_eq_true, Classical.not_not, z_10, z_iT, z_iF]
        · skip
          by_cases c4 : p < 1
          · refine z_R2_no z_code4 rfl rfl h_I_ref ?_ ?_ (J_post_no h_I_ref J H E z_code4)
            · show z_cI 5 84 _ _ = _
              rw [E84]
              simp only [M122 z_code4, z_bs, g_6_1, o_8, o_6, M43n J hi, z_nulS (show 6 ≤ ad i by omega), z_ff, M124, y_g5 k4.1, y_ob k4.1, l5, y_lt10 h10, c1, Int32.not_lt.mp c1, c2, Int32.not_le.mp c2, c3, Int32.not_lt.mp c3, c4, Int32.not_le.mpr c4, true_or, or_true, or_self, false_or, or_false, not_true, not_false_eq_true, Classical.not_not, z_10, z_iT, z_iF]
            · show z_cI 3 142 _ _ = _
              rw [E142]
              simp only [M131 z_code4, z_bs, o_52, M133 (S := (z_no 7 S (-4))) (n := ms.length) (show (z_no 7 S (-4)) 52 2 = nI ms.length from J.2.2.1), d1, z_le78, z_lt19, g_52_8, l_60 i1, i2, show (z_no 7 S (-4)) 60 i = nI (ms[i]).2.2.2.2.2.length from k5.2.2.2.2.2.1, y_eq10 h10, z_ff, z_tt, c1, Int32.not_lt.mp c1, c2, Int32.not_le.mp c2, c3, Int32.not_lt.mp c3, c4, Int32.not_le.mpr c4, true_or, or_true, or_self, false_or, or_false, not_true, not_false_eq_true, Classical.not_not, z_10, z_iT, z_iF]
          · skip
            by_cases c5 : w < 0
            · refine z_R2_no z_code4 rfl rfl h_I_ref ?_ ?_ (J_post_no h_I_ref J H E z_code4)
              · show z_cI 5 84 _ _ = _
                rw [E84]
                simp only [M122 z_code4, z_bs, g_6_1, o_8, o_6, M43n J hi, z_nulS (show 6 ≤ ad i by omega), z_ff, M124, y_g5 k4.1, y_ob k4.1, l5, y_lt10 h10, c1, Int32.not_lt.mp c1, c2, Int32.not_le.mp c2, c3, Int32.not_lt.mp c3, c4, Int32.not_lt.mp c4, c5, Int32.not_le.mpr c5, true_or, or_true, or_self, false_or, or_false, not_true, not_false_eq_true, Classical.not_not, z_10, z_iT, z_iF]
              · show z_cI 3 142 _ _ = _
                rw [E142]
                simp only [M131 z_code4, z_bs, o_52, M133 (S := (z_no 7 S (-4))) (n := ms.length) (show (z_no 7 S (-4)) 52 2 = nI ms.length from J.2.2.1), d1, z_le78, z_lt19, g_52_8, l_60 i1, i2, show (z_no 7 S (-4)) 60 i = nI (ms[i]).2.2.2.2.2.length from k5.2.2.2.2.2.1, y_eq10 h10, z_ff, z_tt, c1, Int32.not_lt.mp c1, c2, Int32.not_le.mp c2, c3, Int32.not_lt.mp c3, c4, Int32.not_lt.mp c4, c5, Int32.not_le.mpr c5, true_or, or_true, or_self, false_or, or_false, not_true, not_false_eq_true, Classical.not_not, z_10, z_iT, z_iF]
            · skip
              by_cases c6 : 20 ≤ c
              · refine z_R2_no z_code6 rfl rfl h_I_ref ?_ ?_ (J_post_no h_I_ref J H E z_code6)
                · show z_cI 5 84 _ _ = _
                  rw [E84]
                  simp only [M122 z_code6, z_bs, g_6_1, o_8, o_6, M43n J hi, z_nulS (show 6 ≤ ad i by omega), z_ff, M124, y_g5 k4.1, y_ob k4.1, l5, y_lt10 h10, c1, Int32.not_lt.mp c1, c2, Int32.not_le.mp c2, c3, Int32.not_lt.mp c3, c4, Int32.not_lt.mp c4, c5, Int32.not_lt.mp c5, c6, Int32.not_lt.mpr c6, true_or, or_true, or_self, false_or, or_false, not_true, not_false_eq_true, Classical.not_not, z_10, z_iT, z_iF]
                · show z_cI 3 142 _ _ = _
                  rw [E142]
                  simp only [M131 z_code6, z_bs, o_52, M133 (S := (z_no 7 S (-6))) (n := ms.length) (show (z_no 7 S (-6)) 52 2 = nI ms.length from J.2.2.1), d1, z_le78, z_lt19, g_52_8, l_60 i1, i2, show (z_no 7 S (-6)) 60 i = nI (ms[i]).2.2.2.2.2.length from k5.2.2.2.2.2.1, y_eq10 h10, z_ff, z_tt, c1, Int32.not_lt.mp c1, c2, Int32.not_le.mp c2, c3, Int32.not_lt.mp c3, c4, Int32.not_lt.mp c4, c5, Int32.not_lt.mp c5, c6, Int32.not_lt.mpr c6, true_or, or_true, or_self, false_or, or_false, not_true, not_false_eq_true, Classical.not_not, z_10, z_iT, z_iF]
              · skip
                by_cases c7 : 20 < p
                · refine z_R2_no z_code6 rfl rfl h_I_ref ?_ ?_ (J_post_no h_I_ref J H E z_code6)
                  · show z_cI 5 84 _ _ = _
                    rw [E84]
                    simp only [M122 z_code6, z_bs, g_6_1, o_8, o_6, M43n J hi, z_nulS (show 6 ≤ ad i by omega), z_ff, M124, y_g5 k4.1, y_ob k4.1, l5, y_lt10 h10, c1, Int32.not_lt.mp c1, c2, Int32.not_le.mp c2, c3, Int32.not_lt.mp c3, c4, Int32.not_lt.mp c4, c5, Int32.not_lt.mp c5, c6, Int32.not_le.mp c6, c7, Int32.not_le.mpr c7, true_or, or_true, or_self, false_or, or_false, not_true, not_false_eq_true, Classical.not_not, z_10, z_iT, z_iF]
                  · show z_cI 3 142 _ _ = _
                    rw [E142]
                    simp only [M131 z_code6, z_bs, o_52, M133 (S := (z_no 7 S (-6))) (n := ms.length) (show (z_no 7 S (-6)) 52 2 = nI ms.length from J.2.2.1), d1, z_le78, z_lt19, g_52_8, l_60 i1, i2, show (z_no 7 S (-6)) 60 i = nI (ms[i]).2.2.2.2.2.length from k5.2.2.2.2.2.1, y_eq10 h10, z_ff, z_tt, c1, Int32.not_lt.mp c1, c2, Int32.not_le.mp c2, c3, Int32.not_lt.mp c3, c4, Int32.not_lt.mp c4, c5, Int32.not_lt.mp c5, c6, Int32.not_le.mp c6, c7, Int32.not_le.mpr c7, true_or, or_true, or_self, false_or, or_false, not_true, not_false_eq_true, Classical.not_not, z_10, z_iT, z_iF]
                · skip
                  by_cases c8 : 99 < w
                  · refine z_R2_no z_code6 rfl rfl h_I_ref ?_ ?_ (J_post_no h_I_ref J H E z_code6)
                    · show z_cI 5 84 _ _ = _
                      rw [E84]
                      simp only [M122 z_code6, z_bs, g_6_1, o_8, o_6, M43n J hi, z_nulS (show 6 ≤ ad i by omega), z_ff, M124, y_g5 k4.1, y_ob k4.1, l5, y_lt10 h10, c1, Int32.not_lt.mp c1, c2, Int32.not_le.mp c2, c3, Int32.not_lt.mp c3, c4, Int32.not_lt.mp c4, c5, Int32.not_lt.mp c5, c6, Int32.not_le.mp c6, c7, Int32.not_lt.mp c7, c8, Int32.not_le.mpr c8, true_or, or_true, or_self, false_or, or_false, not_true, not_false_eq_true, Classical.not_not, z_10, z_iT, z_iF]
                    · show z_cI 3 142 _ _ = _
                      rw [E142]
                      simp only [M131 z_code6, z_bs, o_52, M133 (S := (z_no 7 S (-6))) (n := ms.length) (show (z_no 7 S (-6)) 52 2 = nI ms.length from J.2.2.1), d1, z_le78, z_lt19, g_52_8, l_60 i1, i2, show (z_no 7 S (-6)) 60 i = nI (ms[i]).2.2.2.2.2.length from k5.2.2.2.2.2.1, y_eq10 h10, z_ff, z_tt, c1, Int32.not_lt.mp c1, c2, Int32.not_le.mp c2, c3, Int32.not_lt.mp c3, c4, Int32.not_lt.mp c4, c5, Int32.not_lt.mp c5, c6, Int32.not_le.mp c6, c7, Int32.not_lt.mp c7, c8, Int32.not_le.mpr c8, true_or, or_true, or_self, false_or, or_false, not_true, not_false_eq_true, Classical.not_not, z_10, z_iT, z_iF]
                  · skip
                    by_cases c9 : 10 ≤ (ms[i]).2.2.2.2.2.length
                    · refine z_R2_no z_code6 rfl rfl h_I_ref ?_ ?_ (J_post_no h_I_ref J H E z_code6)
                      · show z_cI 5 84 _ _ = _
                        rw [E84]
                        simp only [M122 z_code6, z_bs, g_6_1, o_8, o_6, M43n J hi, z_nulS (show 6 ≤ ad i by omega), z_ff, M124, y_g5 k4.1, y_ob k4.1, l5, y_lt10 h10, c1, Int32.not_lt.mp c1, c2, Int32.not_le.mp c2, c3, Int32.not_lt.mp c3, c4, Int32.not_lt.mp c4, c5, Int32.not_lt.mp c5, c6, Int32.not_le.mp c6, c7, Int32.not_lt.mp c7, c8, Int32.not_lt.mp c8, c9, true_or, or_true, or_self, false_or, or_false, not_true, not_false_eq_true, Classical.not_not, z_10, z_iT, z_iF]
                      · show z_cI 3 142 _ _ = _
                        rw [E142]
                        simp only [M131 z_code6, z_bs, o_52, M133 (S := (z_no 7 S (-6))) (n := ms.length) (show (z_no 7 S (-6)) 52 2 = nI ms.length from J.2.2.1), d1, z_le78, z_lt19, g_52_8, l_60 i1, i2, show (z_no 7 S (-6)) 60 i = nI (ms[i]).2.2.2.2.2.length from k5.2.2.2.2.2.1, y_eq10 h10, z_ff, z_tt, c1, Int32.not_lt.mp c1, c2, Int32.not_le.mp c2, c3, Int32.not_lt.mp c3, c4, Int32.not_lt.mp c4, c5, Int32.not_lt.mp c5, c6, Int32.not_le.mp c6, c7, Int32.not_lt.mp c7, c8, Int32.not_lt.mp c8, c9, true_or, or_true, or_self, false_or, or_false, not_true, not_false_eq_true, Classical.not_not, z_10, z_iT, z_iF]
                    · skip
                      obtain ⟨dd, hdd, rfl⟩ := z_plc (n := 8) (by omega) c1 c2
                      obtain ⟨cc, hcc, rfl⟩ := z_plc (n := 20) (by omega) (fun q => c3 (z_lt.mpr (by have := z_lt.mp q; have e0 : (0 : Int32).toInt = 0 := rfl; have e1 : (1 : Int32).toInt = 1 := rfl; omega))) c6
                      have c7n := Int32.not_lt.mp c7
                      have c8n := Int32.not_lt.mp c8
                      obtain ⟨pp, hpp, rfl⟩ := nI_of2 (n := 20) rfl (fun q => c4 (z_lt.mpr (by have := z_lt.mp q; have e0 : (0 : Int32).toInt = 0 := rfl; have e1 : (1 : Int32).toInt = 1 := rfl; omega))) c7n
                      obtain ⟨ww, hww, rfl⟩ := nI_of2 (n := 99) rfl c5 c8n
                      have hc1 : 1 ≤ cc := by
                        have := z_le.mp (Int32.not_lt.mp c3)
                        rw [z_nI (by omega)] at this
                        have e1 : (1 : Int32).toInt = 1 := rfl
                        omega
                      have hp1 : 1 ≤ pp := by
                        have := z_le.mp (Int32.not_lt.mp c4)
                        rw [z_nI (by omega)] at this
                        have e1 : (1 : Int32).toInt = 1 := rfl
                        omega
                      by_cases c10 : ¬ y_onb (y_en ms[i]) dd cc = true
                      · refine z_R2_no z_code3 rfl rfl h_I_ref ?_ ?_ (J_post_no h_I_ref J H E z_code3)
                        · show z_cI 5 84 _ _ = _
                          rw [E84]
                          simp only [M122 z_code3, z_bs, g_6_1, o_8, o_6, M43n J hi, z_nulS (show 6 ≤ ad i by omega), z_ff, M124, y_g5 k4.1, y_ob k4.1, l5, y_lt10 h10, M26 k4.1 hD l6 hen hdd (show cc < 20 by omega), c1, Int32.not_lt.mp c1, c2, Int32.not_le.mp c2, c3, Int32.not_lt.mp c3, c4, Int32.not_lt.mp c4, c5, Int32.not_lt.mp c5, c6, Int32.not_le.mp c6, c7, Int32.not_lt.mp c7, c8, Int32.not_lt.mp c8, c9, c10, true_or, or_true, or_self, false_or, or_false, not_true, not_false_eq_true, Classical.not_not, z_10, z_iT, z_iF]
                        · show z_cI 3 142 _ _ = _
                          rw [E142]
                          simp only [M131 z_code3, z_bs, o_52, M133 (S := (z_no 7 S (-3))) (n := ms.length) (show (z_no 7 S (-3)) 52 2 = nI ms.length from J.2.2.1), d1, z_le78, z_lt19, g_52_8, l_60 i1, i2, show (z_no 7 S (-3)) 60 i = nI (ms[i]).2.2.2.2.2.length from k5.2.2.2.2.2.1, y_eq10 h10, z_ff, z_tt, g_52_9, l_61 i1, show (z_no 7 S (-3)) 61 i = nI (y_en ms[i]) from k5.2.2.2.2.2.2.1, M138 hen hdd (show cc < 20 by omega), z_0m1, z_e00, c1, Int32.not_lt.mp c1, c2, Int32.not_le.mp c2, c3, Int32.not_lt.mp c3, c4, Int32.not_lt.mp c4, c5, Int32.not_lt.mp c5, c6, Int32.not_le.mp c6, c7, Int32.not_lt.mp c7, c8, Int32.not_lt.mp c8, c9, c10, true_or, or_true, or_self, false_or, or_false, not_true, not_false_eq_true, Classical.not_not, z_10, z_iT, z_iF]
                      · skip
                        have hb : y_onb (y_en ms[i]) dd cc = true := Classical.not_not.mp c10
                        have g20 : cc < 20 := by omega
                        have hgok : y_gok (y_en ms[i]) (dd, cc, pp, ww) := ⟨hdd, hc1, show cc ≤ 19 by omega, hp1, hpp, hww, y_on_iff.mp hb⟩
                        have hl9 : (ms[i]).2.2.2.2.2.length < 10 := by
                          omega
                        obtain ⟨S1, e1, e2, e3⟩ := M27 (L := L) (nx := nx) (sl := sl) hDf kf k3 hgok hl9
                        generalize hn : (ms[i]).2.2.2.2.2.length = n at *
                        have s1 : ∀ b, b < 87 → S1 b = y_fgo S i 12 b := fun b hb => e3 b (by omega)
                        have s2 : ∀ b, b ≠ 12 → b < 87 → S1 b = S b := fun b q1 q2 => by rw [s1 b q2, y_fgo_ne q1]
                        have m2 : S1 52 2 = nI ms.length := by rw [s2 52 (by decide) (by decide)]; exact J.2.2.1
                        have m60 : S1 60 i = nI n := by rw [s2 60 (by decide) (by decide)]; exact hn ▸ k5.2.2.2.2.2.1
                        have m61 : S1 61 i = nI (y_en ms[i]) := by rw [s2 61 (by decide) (by decide)]; exact k5.2.2.2.2.2.2.1
                        have m49 : S1 52 49 = S 52 49 := by rw [s2 52 (by decide) (by decide)]
                        have al : (0 : Int32) ≤ nI (y_al (y_en ms[i]) dd cc) := Int32.not_lt.mp (nI_pos (by have := y_al_lt (y_on_iff.mp hb); omega))
                        obtain ⟨F, hF⟩ : ∃ F, F = z_ups (z_ups (z_ups (y_u62 S1 (i * 10 + n) (dd, cc, pp, ww)) 61 i (nI (y_al (y_en ms[i]) dd cc))) 60 i (nI (n + 1))) 52 49 (S 52 49 + 1) := ⟨_, rfl⟩
                        have fin : ∀ b, b ≠ 62 → b ≠ 61 → b ≠ 60 → b ≠ 52 → F b = S1 b := fun b q0 q1 q2 q3 => by rw [hF, z_ups_ne q3, z_ups_ne q2, z_ups_ne q1, y_u62_ne q0]
                        have fin2 : ∀ k, k ≠ 49 → F 52 k = S 52 k := fun k q => by rw [hF, z_upsE, if_pos rfl, if_neg q, z_ups_ne (by decide), z_ups_ne (by decide), y_u62_ne (by decide), s2 52 (by decide) (by decide)]
                        have f62 : F 62 = y_u62 S1 (i * 10 + n) (dd, cc, pp, ww) 62 := by rw [hF, z_ups_ne (by decide), z_ups_ne (by decide), z_ups_ne (by decide)]
                        have f61 : ∀ j, F 61 j = if j = i then nI (y_al (y_en ms[i]) dd cc) else S 61 j := fun j => by rw [hF, z_ups_ne (by decide), z_ups_ne (by decide), z_upsE, if_pos rfl, y_u62_ne (by decide), s2 61 (by decide) (by decide)]
                        have f60 : ∀ j, F 60 j = if j = i then nI (n + 1) else S 60 j := fun j => by rw [hF, z_ups_ne (by decide), z_upsE, if_pos rfl, z_ups_ne (by decide), y_u62_ne (by decide), s2 60 (by decide) (by decide)]
                        have hbb : ∀ b, 87 ≤ b → b < ad i ∨ ad i + 6 ≤ b → F b = S b := fun b q1 q2 => by rw [fin b (by omega) (by omega) (by omega) (by omega), e3 b q2, y_fgo_ne (by omega)]
                        have f : ∀ b, b ≠ 62 → b ≠ 61 → b ≠ 60 → b ≠ 52 → b ≠ 12 → b < 87 → F b = S b := fun b q1 q2 q3 q4 q5 q6 => by rw [fin b q1 q2 q3 q4, s2 b q5 q6]
                        have hsz : i * 10 + n < 120 := by omega
                        refine ⟨nI (n + 1), S1, F, ?_, ?_, ⟨fun b hb h52 => ?_, fun k hk => ?_⟩, ?_, ⟨ms.set i ((ms[i]).1, (ms[i]).2.1, (ms[i]).2.2.1, (ms[i]).2.2.2.1, (ms[i]).2.2.2.2.1, (ms[i]).2.2.2.2.2 ++ [(dd, cc, pp, ww)]), ?_, ?_, ?_⟩, ?_⟩
                        · show z_cI 5 84 _ _ = _
                          rw [E84]
                          simp only [g_6_1, o_8, o_6, M43n J hi, z_nulS (show 6 ≤ ad i by omega), z_ff, M124, y_g5 k4.1, y_ob k4.1, l5, y_lt10 h10, M26 k4.1 hD l6 hen hdd (show cc < 20 by omega), z_bs, c1, Int32.not_lt.mp c1, c2, Int32.not_le.mp c2, c3, Int32.not_lt.mp c3, c4, Int32.not_lt.mp c4, c5, Int32.not_lt.mp c5, c6, Int32.not_le.mp c6, c7, Int32.not_lt.mp c7, c8, Int32.not_lt.mp c8, c9, c10, Classical.not_not.mp c10, true_or, or_true, or_self, false_or, or_false, not_true, not_false_eq_true, Classical.not_not, z_10, z_iT, z_iF, M46 h12, e1]
                        · show z_cI 3 142 _ _ = _
                          rw [E142]
                          rw [hF]
                          unfold y_u62
                          simp only [o_52, M133 (S := S1) (n := ms.length) (show S1 52 2 = nI ms.length from m2), d1, z_le78, z_lt19, g_52_8, l_60 i1, i2, m60, y_eq10 h10, z_ff, z_tt, g_52_9, l_61 i1, m61, M138 hen hdd (show cc < 20 by omega), z_0m1, z_e00, z_bs, c1, Int32.not_lt.mp c1, c2, Int32.not_le.mp c2, c3, Int32.not_lt.mp c3, c4, Int32.not_lt.mp c4, c5, Int32.not_lt.mp c5, c6, Int32.not_le.mp c6, c7, Int32.not_lt.mp c7, c8, Int32.not_lt.mp c8, c9, c10, Classical.not_not.mp c10, al, true_or, or_true, or_self, false_or, or_false, not_true, not_false_eq_true, Classical.not_not, z_10, z_iT, z_iF, g_52_8, g_52_9, g_52_10, s_61 i1, s_60 i1, m60, y_st62_0 h12 hl9, y_st62_1 h12 hl9, y_st62_2 h12 hl9, y_st62_3 h12 hl9, g_52_49, p_52_49, z_ups_ne (show (52 : Nat) ≠ 60 by decide), z_ups_ne (show (52 : Nat) ≠ 61 by decide), z_ups_ne (show (52 : Nat) ≠ 62 by decide), m49, z_ups_ne (show (60 : Nat) ≠ 61 by decide), z_ups_ne (show (60 : Nat) ≠ 62 by decide), z_ups_ne (show (60 : Nat) ≠ 52 by decide), nI_1, z_upsS, hb]
                        · have h7 : b ≠ 62 ∧ b ≠ 61 ∧ b ≠ 60 ∧ b ≠ 12 ∧ b < 87 := by
                            unfold A_mv at hb
                            rw [Bool.or_eq_false_iff, decide_eq_false_iff_not, decide_eq_false_iff_not] at hb
                            refine ⟨fun q => hb.1 (by rw [q]; decide), fun q => hb.1 (by rw [q]; decide), fun q => hb.1 (by rw [q]; decide), fun q => hb.1 (by rw [q]; decide), by omega⟩
                          exact f b h7.1 h7.2.1 h7.2.2.1 h52 h7.2.2.2.1 h7.2.2.2.2
                        · exact fin2 k (fun q => by rw [q] at hk; exact absurd hk (by decide))
                        · exact I_ref_fr h_I_ref ⟨f 7 (by decide) (by decide) (by decide) (by decide) (by decide) (by decide), f 86 (by decide) (by decide) (by decide) (by decide) (by decide) (by decide)⟩
                        · refine J_upd J hi ⟨k3.1, k3.2.1, k3.2.2.1, k3.2.2.2.1, k3.2.2.2.2.1, ?_, y_okl_snoc _ k3.2.2.2.2.2.2 hgok⟩ ?_ (fin2 2 (by decide)) (y_cM_fr e2 (fun b hb _ => fin b (by omega) (by omega) (by omega) (by omega))) ?_ hbb (fun j hj hj2 => ?_)
                          · show ((ms[i]).2.2.2.2.2 ++ [(dd, cc, pp, ww)]).length ≤ 10
                            rw [List.length_append, hn]
                            exact hl9
                          · rw [f 8 (by decide) (by decide) (by decide) (by decide) (by decide) (by decide)]
                          · obtain ⟨g1, g2, g3, g4, g5, g6, g7, g8⟩ := k5
                            unfold y_mM
                            rw [f 55 (by decide) (by decide) (by decide) (by decide) (by decide) (by decide), f 56 (by decide) (by decide) (by decide) (by decide) (by decide) (by decide), f 57 (by decide) (by decide) (by decide) (by decide) (by decide) (by decide), f 58 (by decide) (by decide) (by decide) (by decide) (by decide) (by decide), f 59 (by decide) (by decide) (by decide) (by decide) (by decide) (by decide)]
                            refine ⟨g1, g2, g3, g4, g5, ?_, ?_, fun k hk => ?_⟩
                            · rw [f60, if_pos rfl]
                              show _ = nI ((ms[i]).2.2.2.2.2 ++ [(dd, cc, pp, ww)]).length
                              rw [List.length_append, hn]
                              rfl
                            · rw [f61, if_pos rfl]
                              show _ = nI (y_end (ms[i]).2.2.1 ((ms[i]).2.2.2.2.2 ++ [(dd, cc, pp, ww)]))
                              rw [y_end_snoc]
                              rfl
                            · have hk2 : k < n + 1 := by
                                have : k < ((ms[i]).2.2.2.2.2 ++ [(dd, cc, pp, ww)]).length := hk
                                rw [List.length_append, hn] at this
                                exact this
                              show F 62 _ = nI (((ms[i]).2.2.2.2.2 ++ [(dd, cc, pp, ww)])[k]).1 ∧ F 62 _ = nI (((ms[i]).2.2.2.2.2 ++ [(dd, cc, pp, ww)])[k]).2.1 ∧ F 62 _ = nI (((ms[i]).2.2.2.2.2 ++ [(dd, cc, pp, ww)])[k]).2.2.1 ∧ F 62 _ = nI (((ms[i]).2.2.2.2.2 ++ [(dd, cc, pp, ww)])[k]).2.2.2
                              by_cases q : k = n
                              · have : ((ms[i]).2.2.2.2.2 ++ [(dd, cc, pp, ww)])[k] = (dd, cc, pp, ww) := by
                                  rw [List.getElem_append_right (by omega)]
                                  simp
                                rw [this, f62, q]
                                exact y_u62_s
                              · have hk3 : k < (ms[i]).2.2.2.2.2.length := by omega
                                rw [List.getElem_append_left hk3, f62, y_u62_o (by omega) (by omega), y_u62_o (by omega) (by omega), y_u62_o (by omega) (by omega), y_u62_o (by omega) (by omega), s2 62 (by decide) (by decide)]
                                exact g8 k hk3
                          · rw [f 55 (by decide) (by decide) (by decide) (by decide) (by decide) (by decide), f 56 (by decide) (by decide) (by decide) (by decide) (by decide) (by decide), f 57 (by decide) (by decide) (by decide) (by decide) (by decide) (by decide), f 58 (by decide) (by decide) (by decide) (by decide) (by decide) (by decide), f 59 (by decide) (by decide) (by decide) (by decide) (by decide) (by decide)]
                            refine ⟨rfl, rfl, rfl, rfl, rfl, ?_, ?_, fun k r hk hr => ?_⟩
                            · rw [f60, if_neg hj]
                            · rw [f61, if_neg hj]
                            · rw [f62, y_u62_o (by omega) hr, s2 62 (by decide) (by decide)]
                        · exact J_hit_upd H h12' hi (fun q => by rw [fin 12 (by decide) (by decide) (by decide) (by decide), s1 12 (by decide)])
                        · exact J_ed_up hkk E (by rw [hF, z_upsE, if_pos rfl, if_pos rfl]) (fin2 50 (by decide))
                        · exact y_oth J hi hbb
end ZSJ
