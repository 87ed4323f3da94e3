section ZSG
variable {L : Nat} {Dh : Nat → z_Sh} {S : Nat → Nat → Int32} {R : Nat → Nat → Option Nat} {nx sl : Nat}
variable {ms : List y_Mv} {ad : Nat → Nat}
/-- nothing of the movers is written -/
def y_ms (S S' : Nat → Nat → Int32) : Prop := S' 8 3 = S 8 3 ∧ S' 52 2 = S 52 2 ∧ S' 55 = S 55 ∧ S' 56 = S 56 ∧ S' 57 = S 57 ∧ S' 58 = S 58 ∧ S' 59 = S 59 ∧ S' 60 = S 60 ∧ S' 61 = S 61 ∧ S' 62 = S 62 ∧ ∀ a, 87 ≤ a → S' a = S a
theorem y_lgC_fr {S' : Nat → Nat → Int32} {a : Nat} {lg : List y_Lg} (h : y_lgC a S lg) (e : ∀ b, a ≤ b → b ≤ a + 5 → S' b = S b) : y_lgC a S' lg := by
  unfold y_lgC
  rw [e a (by omega) (by omega), e (a + 1) (by omega) (by omega), e (a + 2) (by omega) (by omega), e (a + 3) (by omega) (by omega), e (a + 4) (by omega) (by omega)]
  exact h
theorem y_cM_fr {S' : Nat → Nat → Int32} {a : Nat} {m : y_Mv} (h : y_cM Dh R S a m) (e : ∀ b, a ≤ b → b ≤ a + 5 → S' b = S b) : y_cM Dh R S' a m := by
  obtain ⟨h1, h2, h3, h4, h5, h6, h7, h8, h9, h10, h11⟩ := h
  unfold y_cM
  rw [e a (by omega) (by omega), e (a + 5) (by omega) (by omega)]
  exact ⟨h1, h2, h3, h4, h5, h6, y_lgC_fr h7 e, h8, h9, h10, h11⟩
theorem J_mov_fr {S' : Nat → Nat → Int32} (h : J_mov ms ad Dh S R nx) (e : y_ms S S') : J_mov ms ad Dh S' R nx := by
  obtain ⟨e1, e2, e3, e4, e5, e6, e7, e8, e9, e10, e11⟩ := e
  obtain ⟨h1, h2, h3, h4, h5⟩ := h
  refine ⟨h1, e1.trans h2, e2.trans h3, fun i hi => ?_, h5⟩
  obtain ⟨k1, k2, k3, k4, k5⟩ := h4 i hi
  have h87 := k4.1.1
  refine ⟨k1, k2, k3, y_cM_fr k4 (fun b hb _ => e11 b (by omega)), ?_⟩
  unfold y_mM
  rw [e3, e4, e5, e6, e7, e8, e9, e10]
  exact k5
theorem y_ms_no {a : Nat} {c : Int32} (h : a = 7 ∨ a = 86) : y_ms S (z_no a S c) := by
  rcases h with rfl | rfl
  · exact ⟨rfl, rfl, rfl, rfl, rfl, rfl, rfl, rfl, rfl, rfl, fun b hb => z_ups_ne (by omega)⟩
  · exact ⟨rfl, rfl, rfl, rfl, rfl, rfl, rfl, rfl, rfl, rfl, fun b hb => z_ups_ne (by omega)⟩
theorem z_nulN : z_nul none = some true := rfl
theorem z_nulS {a : Nat} (h : 6 ≤ a) : z_nul (some a) = some false := by
  unfold z_nul
  simp only []
  rw [if_neg (by omega)]
theorem z_ff : (false = true) = False := eq_false (by decide)
theorem z_tt : (true = true) = True := eq_true rfl
theorem z_n00 : (¬ (0 : Int32) = 0) = False := eq_false (fun q => q rfl)
theorem z_e00 : ((0 : Int32) = 0) = True := eq_true rfl
/-- a wrong mover: both sides see it -/
theorem y_bad (x : Int32) (n : Nat) : (if x < 0 ∨ nI n ≤ x then (0 : Int32) else 1) = 0 ↔ (x < 0 ∨ nI n ≤ x) := by
  by_cases c : x < 0 ∨ nI n ≤ x
  · rw [if_pos c]; exact ⟨fun _ => c, fun _ => rfl⟩
  · rw [if_neg c]; exact ⟨fun q => absurd q (by decide), fun q => absurd q c⟩
theorem S_place (h_I_ref : I_ref S) (J : J_mov ms ad Dh S R nx) (x t l : Int32) : z_R2 (fun h => z_cI 3 86 [.inr (.inr (some 6)), .inl x, .inl t, .inl l] h) (fun h => z_cI 4 145 [.inr (.inr (some 52)), .inl x, .inl t, .inl l] h) L Dh S R nx sl A_0 K_0 (fun S' => I_ref S') := by
  by_cases d1 : x < 0 ∨ nI ms.length ≤ x
  · refine z_R2_no z_code1 rfl rfl h_I_ref ?_ ?_ (z_no_ref h_I_ref z_code1)
    · show z_cI 3 86 _ _ = _
      rw [E86]
      simp only [g_6_1, o_8, M43x J d1, z_bs, z_nulN, z_tt, z_iT, o_6, M122 z_code1]
    · show z_cI 4 145 _ _ = _
      rw [E145]
      simp only [o_52, z_bs, M133 (show z_no 7 S (-1) 52 2 = nI ms.length from J.2.2.1), d1, z_iT, z_e00, not_true, z_iF, M131 z_code1]
  · obtain ⟨i, hi, rfl⟩ := z_plc (by have := J.1; omega) (fun q => d1 (Or.inl q)) (fun q => d1 (Or.inr q))
    obtain ⟨k1, k2, k3, k4, k5⟩ := J.2.2.2.1 i hi
    have h12 : i < 12 := by have := J.1; omega
    have i1 : z_in (nI i) 12 = true := z_in_nI h12 (by decide)
    have i2 : (nI i).toNatClampNeg = i := z_cl (by omega)
    have hs : S (ad i) 4 = nI (ms[i]).2.2.2.2.1 := k4.2.2.2.2.2.1
    have hs2 : S 59 i = nI (ms[i]).2.2.2.2.1 := k5.2.2.2.2.1
    by_cases c1 : t < 0
    · refine z_R2_no z_code4 rfl rfl h_I_ref ?_ ?_ (z_no_ref h_I_ref z_code4)
      · show z_cI 3 86 [.inr (.inr (some 6)), .inl (nI i), .inl t, .inl l] _ = _
        rw [E86]
        simp only [M122 z_code4, z_bs, g_6_1, o_8, o_6, M43n J hi, z_nulS (show 6 ≤ ad i by have := k4.1.1; omega), z_ff, y_g4 k4.1, y_ob k4.1, hs, c1, Int32.not_le.mpr c1, true_or, or_true, or_self, false_or, or_false, not_true, not_false_eq_true, Classical.not_not, z_10, z_iT, z_iF]
      · show z_cI 4 145 [.inr (.inr (some 52)), .inl (nI i), .inl t, .inl l] _ = _
        rw [E145]
        simp only [M131 z_code4, z_bs, o_52, M133 (S := (z_no 7 S (-4))) (n := ms.length) (show (z_no 7 S (-4)) 52 2 = nI ms.length from J.2.2.1), d1, g_52_7, l_59 i1, i2, show (z_no 7 S (-4)) 59 i = nI (ms[i]).2.2.2.2.1 from hs2, c1, Int32.not_le.mpr c1, true_or, or_true, or_self, false_or, or_false, not_true, not_false_eq_true, Classical.not_not, z_10, z_iT, z_iF]
    · skip
      by_cases c2 : l < 0
      · refine z_R2_no z_code4 rfl rfl h_I_ref ?_ ?_ (z_no_ref h_I_ref z_code4)
        · show z_cI 3 86 [.inr (.inr (some 6)), .inl (nI i), .inl t, .inl l] _ = _
          rw [E86]
          simp only [M122 z_code4, z_bs, g_6_1, o_8, o_6, M43n J hi, z_nulS (show 6 ≤ ad i by have := k4.1.1; omega), z_ff, y_g4 k4.1, y_ob k4.1, hs, c1, Int32.not_lt.mp c1, c2, Int32.not_le.mpr c2, true_or, or_true, or_self, false_or, or_false, not_true, not_false_eq_true, Classical.not_not, z_10, z_iT, z_iF]
        · show z_cI 4 145 [.inr (.inr (some 52)), .inl (nI i), .inl t, .inl l] _ = _
          rw [E145]
          simp only [M131 z_code4, z_bs, o_52, M133 (S := (z_no 7 S (-4))) (n := ms.length) (show (z_no 7 S (-4)) 52 2 = nI ms.length from J.2.2.1), d1, g_52_7, l_59 i1, i2, show (z_no 7 S (-4)) 59 i = nI (ms[i]).2.2.2.2.1 from hs2, c1, Int32.not_lt.mp c1, c2, Int32.not_le.mpr c2, true_or, or_true, or_self, false_or, or_false, not_true, not_false_eq_true, Classical.not_not, z_10, z_iT, z_iF]
      · skip
        by_cases c3 : 600 < t
        · refine z_R2_no z_code6 rfl rfl h_I_ref ?_ ?_ (z_no_ref h_I_ref z_code6)
          · show z_cI 3 86 [.inr (.inr (some 6)), .inl (nI i), .inl t, .inl l] _ = _
            rw [E86]
            simp only [M122 z_code6, z_bs, g_6_1, o_8, o_6, M43n J hi, z_nulS (show 6 ≤ ad i by have := k4.1.1; omega), z_ff, y_g4 k4.1, y_ob k4.1, hs, c1, Int32.not_lt.mp c1, c2, Int32.not_lt.mp c2, c3, Int32.not_le.mpr c3, true_or, or_true, or_self, false_or, or_false, not_true, not_false_eq_true, Classical.not_not, z_10, z_iT, z_iF]
          · show z_cI 4 145 [.inr (.inr (some 52)), .inl (nI i), .inl t, .inl l] _ = _
            rw [E145]
            simp only [M131 z_code6, z_bs, o_52, M133 (S := (z_no 7 S (-6))) (n := ms.length) (show (z_no 7 S (-6)) 52 2 = nI ms.length from J.2.2.1), d1, g_52_7, l_59 i1, i2, show (z_no 7 S (-6)) 59 i = nI (ms[i]).2.2.2.2.1 from hs2, c1, Int32.not_lt.mp c1, c2, Int32.not_lt.mp c2, c3, Int32.not_le.mpr c3, true_or, or_true, or_self, false_or, or_false, not_true, not_false_eq_true, Classical.not_not, z_10, z_iT, z_iF]
        · skip
          by_cases c4 : nI (ms[i]).2.2.2.2.1 < l
          · refine z_R2_no z_code6 rfl rfl h_I_ref ?_ ?_ (z_no_ref h_I_ref z_code6)
            · show z_cI 3 86 [.inr (.inr (some 6)), .inl (nI i), .inl t, .inl l] _ = _
              rw [E86]
              simp only [M122 z_code6, z_bs, g_6_1, o_8, o_6, M43n J hi, z_nulS (show 6 ≤ ad i by have := k4.1.1; omega), z_ff, y_g4 k4.1, y_ob k4.1, hs, c1, Int32.not_lt.mp c1, c2, Int32.not_lt.mp c2, c3, Int32.not_lt.mp c3, c4, Int32.not_le.mpr c4, true_or, or_true, or_self, false_or, or_false, not_true, not_false_eq_true, Classical.not_not, z_10, z_iT, z_iF]
            · show z_cI 4 145 [.inr (.inr (some 52)), .inl (nI i), .inl t, .inl l] _ = _
              rw [E145]
              simp only [M131 z_code6, z_bs, o_52, M133 (S := (z_no 7 S (-6))) (n := ms.length) (show (z_no 7 S (-6)) 52 2 = nI ms.length from J.2.2.1), d1, g_52_7, l_59 i1, i2, show (z_no 7 S (-6)) 59 i = nI (ms[i]).2.2.2.2.1 from hs2, c1, Int32.not_lt.mp c1, c2, Int32.not_lt.mp c2, c3, Int32.not_lt.mp c3, c4, Int32.not_le.mpr c4, true_or, or_true, or_self, false_or, or_false, not_true, not_false_eq_true, Classical.not_not, z_10, z_iT, z_iF]
          · skip
            obtain ⟨u, hu, rfl⟩ := nI_of2 (n := 600) rfl c1 (Int32.not_lt.mp c3)
            obtain ⟨v, hv, rfl⟩ := nI_of2 (z_nI (by have := k3.2.2.2.2.1; omega)) c2 (Int32.not_lt.mp c4)
            have h9 := k3.2.2.2.2.1
            refine z_R2_q (r := nI (y_P ms[i] (u - v))) ?_ ?_ h_I_ref
            · show z_cI 3 86 _ _ = _
              rw [E86]
              simp only [g_6_1, o_8, o_6, M43n J hi, z_nulS (show 6 ≤ ad i by have := k4.1.1; omega), z_ff, y_g4 k4.1, y_ob k4.1, hs, z_bs, c1, Int32.not_lt.mp c1, c2, Int32.not_lt.mp c2, c3, Int32.not_lt.mp c3, c4, Int32.not_lt.mp c4, true_or, or_true, or_self, false_or, or_false, not_true, not_false_eq_true, Classical.not_not, z_10, z_iT, z_iF, M29l k4 hu (show v < 100000 by omega)]
            · show z_cI 4 145 _ _ = _
              rw [E145]
              simp only [o_52, M133 (S := S) (n := ms.length) (show S 52 2 = nI ms.length from J.2.2.1), d1, g_52_7, l_59 i1, i2, show S 59 i = nI (ms[i]).2.2.2.2.1 from hs2, z_bs, c1, Int32.not_lt.mp c1, c2, Int32.not_lt.mp c2, c3, Int32.not_lt.mp c3, c4, Int32.not_lt.mp c4, true_or, or_true, or_self, false_or, or_false, not_true, not_false_eq_true, Classical.not_not, z_10, z_iT, z_iF, M144 h12 k3 k5 hu (show v ≤ 600 by omega)]
end ZSG
