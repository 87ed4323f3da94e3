def A_rmp (a : Nat) : Bool := decide (a ∈ [7, 23, 24, 25, 26, 27, 72, 86])
def K_rmp (k : Nat) : Bool := decide (k ∈ [26])
section ZRX
variable {L : Nat} {Dh : Nat → z_Sh} {S : Nat → Nat → Int32} {R : Nat → Nat → Option Nat} {nx sl : Nat}
def I_rmp (S : Nat → Nat → Int32) : Prop := ∃ n : Nat, n ≤ 8 ∧ S 23 4 = nI n ∧ S 52 26 = nI n ∧ ∀ i, i < n → S 24 i = S 72 (i * 4 + 0) ∧ S 25 i = S 72 (i * 4 + 1) ∧ S 26 i = S 72 (i * 4 + 2) ∧ S 27 i = S 72 (i * 4 + 3) ∧ 1 ≤ (S 25 i).toInt
theorem I_rmp_fr {S S' : Nat → Nat → Int32} (h : I_rmp S) (e : S' 23 = S 23 ∧ S' 24 = S 24 ∧ S' 25 = S 25 ∧ S' 26 = S 26 ∧ S' 27 = S 27 ∧ S' 72 = S 72 ∧ S' 52 26 = S 52 26) : I_rmp S' := by
  obtain ⟨e1, e2, e3, e4, e5, e6, e7⟩ := e
  unfold I_rmp
  rw [e1, e2, e3, e4, e5, e6, e7]
  exact h
theorem z_no_rmp {c : Int32} (h : I_rmp S) : I_rmp (z_no 86 (z_no 7 S c) c) := I_rmp_fr h ⟨rfl, rfl, rfl, rfl, rfl, rfl, rfl⟩
theorem z_ld72 {i k : Nat} (h : i * 4 + k < 32) : z_ldI (z_mk L Dh S R nx sl) (some 72) (nI (i * 4 + k)) = some (S 72 (i * 4 + k)) := by
  rw [l_72 (z_in_nI h (by decide)), z_cl (by omega)]
theorem z_st72 {i k : Nat} {x : Int32} (h : i * 4 + k < 32) : z_stI (z_mk L Dh S R nx sl) (some 72) (nI (i * 4 + k)) x = some (z_mk L Dh (z_ups S 72 (i * 4 + k) x) R nx sl) := by
  rw [s_72 (z_in_nI h (by decide)), z_cl (by omega)]
theorem z_ld72a {i : Nat} (h : i < 8) : z_ldI (z_mk L Dh S R nx sl) (some 72) (nI i * 4) = some (S 72 (i * 4 + 0)) := by rw [show nI i * 4 = nI (i * 4 + 0) from z_pl0 i 4]; exact z_ld72 (by omega)
theorem z_st72a {i : Nat} {x : Int32} (h : i < 8) : z_stI (z_mk L Dh S R nx sl) (some 72) (nI i * 4) x = some (z_mk L Dh (z_ups S 72 (i * 4 + 0) x) R nx sl) := by rw [show nI i * 4 = nI (i * 4 + 0) from z_pl0 i 4]; exact z_st72 (by omega)
theorem z_ld72b {i : Nat} (h : i < 8) : z_ldI (z_mk L Dh S R nx sl) (some 72) (nI i * 4 + 1) = some (S 72 (i * 4 + 1)) := by rw [show nI i * 4 + 1 = nI (i * 4 + 1) from z_pl i 4 1]; exact z_ld72 (by omega)
theorem z_st72b {i : Nat} {x : Int32} (h : i < 8) : z_stI (z_mk L Dh S R nx sl) (some 72) (nI i * 4 + 1) x = some (z_mk L Dh (z_ups S 72 (i * 4 + 1) x) R nx sl) := by rw [show nI i * 4 + 1 = nI (i * 4 + 1) from z_pl i 4 1]; exact z_st72 (by omega)
theorem z_ld72c {i : Nat} (h : i < 8) : z_ldI (z_mk L Dh S R nx sl) (some 72) (nI i * 4 + 2) = some (S 72 (i * 4 + 2)) := by rw [show nI i * 4 + 2 = nI (i * 4 + 2) from z_pl i 4 2]; exact z_ld72 (by omega)
theorem z_st72c {i : Nat} {x : Int32} (h : i < 8) : z_stI (z_mk L Dh S R nx sl) (some 72) (nI i * 4 + 2) x = some (z_mk L Dh (z_ups S 72 (i * 4 + 2) x) R nx sl) := by rw [show nI i * 4 + 2 = nI (i * 4 + 2) from z_pl i 4 2]; exact z_st72 (by omega)
theorem z_ld72d {i : Nat} (h : i < 8) : z_ldI (z_mk L Dh S R nx sl) (some 72) (nI i * 4 + 3) = some (S 72 (i * 4 + 3)) := by rw [show nI i * 4 + 3 = nI (i * 4 + 3) from z_pl i 4 3]; exact z_ld72 (by omega)
theorem z_st72d {i : Nat} {x : Int32} (h : i < 8) : z_stI (z_mk L Dh S R nx sl) (some 72) (nI i * 4 + 3) x = some (z_mk L Dh (z_ups S 72 (i * 4 + 3) x) R nx sl) := by rw [show nI i * 4 + 3 = nI (i * 4 + 3) from z_pl i 4 3]; exact z_st72 (by omega)
def z_T35 (S : Nat → Nat → Int32) (n : Nat) (a b e f : Int32) : Nat → Nat → Int32 := z_ups (z_ups (z_ups (z_ups (z_ups S 24 n a) 25 n b) 26 n e) 27 n f) 23 4 (nI n + 1)
theorem M35 {n : Nat} (hn : n < 8) (hS : S 23 4 = nI n) {a b e f : Int32} : z_cI 1 35 [.inr (.inr (some 23)), .inl a, .inl b, .inl e, .inl f] (z_mk L Dh S R nx sl) = some (nI n + 1 - 1, z_mk L Dh (z_T35 S n a b e f) R nx sl) := by
  have h1 : z_in (nI n) 8 = true := z_in_nI hn (by decide)
  have h2 : (nI n).toNatClampNeg = n := z_cl (by omega)
  rw [E35]
  simp only [g_23_0, g_23_1, g_23_2, g_23_3, g_23_4, p_23_4, z_bs, s_24, s_25, s_26, s_27, h1, h2, hS, z_upsE, Nat.reduceEqDiff, z_iF, z_iT, z_T35]
def z_T183 (S : Nat → Nat → Int32) (n : Nat) (a b e f : Int32) : Nat → Nat → Int32 := z_ups (z_ups (z_ups (z_ups (z_ups S 72 (n * 4 + 0) a) 72 (n * 4 + 1) b) 72 (n * 4 + 2) e) 72 (n * 4 + 3) f) 52 26 (nI n + 1)
theorem M102 {n : Nat} (hn : n ≤ 8) (hS : S 23 4 = nI n) {a b e f : Int32} : z_cI 2 102 [.inr (.inr (some 6)), .inl a, .inl b, .inl e, .inl f] (z_mk L Dh S R nx sl) = if a < 1 ∨ b < 1 ∨ e < 1 ∨ f < 1 then some (-4, z_mk L Dh (z_no 7 S (-4)) R nx sl) else if 99 < a ∨ 99 < b ∨ 999 < e ∨ 999 < f ∨ 8 ≤ nI n then some (-6, z_mk L Dh (z_no 7 S (-6)) R nx sl) else some (nI n + 1 - 1, z_mk L Dh (z_T35 S n a b e f) R nx sl) := by
  rw [E102]
  simp only [z_bs, M122 z_code4, M122 z_code6, o_6, o_23, g_6_4, g_23_4, hS]
  by_cases c1 : a < 1
  · simp only [c1, Int32.not_le.mpr c1, true_or, or_true, or_self, false_or, or_false, not_true, not_false_eq_true, Classical.not_not, z_10, z_iT, z_iF]
  · skip
    by_cases c2 : b < 1
    · simp only [c1, Int32.not_lt.mp c1, c2, Int32.not_le.mpr c2, true_or, or_true, or_self, false_or, or_false, not_true, not_false_eq_true, Classical.not_not, z_10, z_iT, z_iF]
    · skip
      by_cases c3 : e < 1
      · simp only [c1, Int32.not_lt.mp c1, c2, Int32.not_lt.mp c2, c3, Int32.not_le.mpr c3, true_or, or_true, or_self, false_or, or_false, not_true, not_false_eq_true, Classical.not_not, z_10, z_iT, z_iF]
      · skip
        by_cases c4 : f < 1
        · simp only [c1, Int32.not_lt.mp c1, c2, Int32.not_lt.mp c2, c3, Int32.not_lt.mp c3, c4, Int32.not_le.mpr c4, true_or, or_true, or_self, false_or, or_false, not_true, not_false_eq_true, Classical.not_not, z_10, z_iT, z_iF]
        · skip
          by_cases c5 : 99 < a
          · simp only [c1, Int32.not_lt.mp c1, c2, Int32.not_lt.mp c2, c3, Int32.not_lt.mp c3, c4, Int32.not_lt.mp c4, c5, Int32.not_le.mpr c5, true_or, or_true, or_self, false_or, or_false, not_true, not_false_eq_true, Classical.not_not, z_10, z_iT, z_iF]
          · skip
            by_cases c6 : 99 < b
            · simp only [c1, Int32.not_lt.mp c1, c2, Int32.not_lt.mp c2, c3, Int32.not_lt.mp c3, c4, Int32.not_lt.mp c4, c5, Int32.not_lt.mp c5, c6, Int32.not_le.mpr c6, true_or, or_true, or_self, false_or, or_false, not_true, not_false_eq_true, Classical.not_not, z_10, z_iT, z_iF]
            · skip
              by_cases c7 : 999 < e
              · simp only [c1, Int32.not_lt.mp c1, c2, Int32.not_lt.mp c2, c3, Int32.not_lt.mp c3, c4, Int32.not_lt.mp c4, c5, Int32.not_lt.mp c5, c6, Int32.not_lt.mp c6, c7, Int32.not_le.mpr c7, true_or, or_true, or_self, false_or, or_false, not_true, not_false_eq_true, Classical.not_not, z_10, z_iT, z_iF]
              · skip
                by_cases c8 : 999 < f
                · simp only [c1, Int32.not_lt.mp c1, c2, Int32.not_lt.mp c2, c3, Int32.not_lt.mp c3, c4, Int32.not_lt.mp c4, c5, Int32.not_lt.mp c5, c6, Int32.not_lt.mp c6, c7, Int32.not_lt.mp c7, c8, Int32.not_le.mpr c8, true_or, or_true, or_self, false_or, or_false, not_true, not_false_eq_true, Classical.not_not, z_10, z_iT, z_iF]
                · skip
                  by_cases c9 : 8 ≤ nI n
                  · simp only [c1, Int32.not_lt.mp c1, c2, Int32.not_lt.mp c2, c3, Int32.not_lt.mp c3, c4, Int32.not_lt.mp c4, c5, Int32.not_lt.mp c5, c6, Int32.not_lt.mp c6, c7, Int32.not_lt.mp c7, c8, Int32.not_lt.mp c8, c9, Int32.not_lt.mpr c9, true_or, or_true, or_self, false_or, or_false, not_true, not_false_eq_true, Classical.not_not, z_10, z_iT, z_iF]
                  · skip
                    simp only [c1, Int32.not_lt.mp c1, c2, Int32.not_lt.mp c2, c3, Int32.not_lt.mp c3, c4, Int32.not_lt.mp c4, c5, Int32.not_lt.mp c5, c6, Int32.not_lt.mp c6, c7, Int32.not_lt.mp c7, c8, Int32.not_lt.mp c8, c9, Int32.not_le.mp c9, true_or, or_true, or_self, false_or, or_false, not_true, not_false_eq_true, Classical.not_not, z_10, z_iT, z_iF]
                    rw [M35 (z_lt60 (m := 8) rfl (by decide) hn c9) hS]
                    simp only [z_bs]
theorem M183 {n : Nat} (hn : n ≤ 8) (hS : S 52 26 = nI n) {a b e f : Int32} : z_cI 2 183 [.inr (.inr (some 52)), .inl a, .inl b, .inl e, .inl f] (z_mk L Dh S R nx sl) = if a < 1 ∨ b < 1 ∨ e < 1 ∨ f < 1 then some (-4, z_mk L Dh (z_no 86 S (-4)) R nx sl) else if 99 < a ∨ 99 < b ∨ 999 < e ∨ 999 < f ∨ 8 ≤ nI n then some (-6, z_mk L Dh (z_no 86 S (-6)) R nx sl) else some (nI n + 1 - 1, z_mk L Dh (z_T183 S n a b e f) R nx sl) := by
  rw [E183]
  simp only [z_bs, M131 z_code4, M131 z_code6, o_52, g_52_26, g_52_27, hS, z_full hn (show (8 : Int32) = nI 8 from rfl) (by decide)]
  by_cases c1 : a < 1
  · simp only [c1, Int32.not_le.mpr c1, true_or, or_true, or_self, false_or, or_false, not_true, not_false_eq_true, Classical.not_not, z_10, z_iT, z_iF]
  · skip
    by_cases c2 : b < 1
    · simp only [c1, Int32.not_lt.mp c1, c2, Int32.not_le.mpr c2, true_or, or_true, or_self, false_or, or_false, not_true, not_false_eq_true, Classical.not_not, z_10, z_iT, z_iF]
    · skip
      by_cases c3 : e < 1
      · simp only [c1, Int32.not_lt.mp c1, c2, Int32.not_lt.mp c2, c3, Int32.not_le.mpr c3, true_or, or_true, or_self, false_or, or_false, not_true, not_false_eq_true, Classical.not_not, z_10, z_iT, z_iF]
      · skip
        by_cases c4 : f < 1
        · simp only [c1, Int32.not_lt.mp c1, c2, Int32.not_lt.mp c2, c3, Int32.not_lt.mp c3, c4, Int32.not_le.mpr c4, true_or, or_true, or_self, false_or, or_false, not_true, not_false_eq_true, Classical.not_not, z_10, z_iT, z_iF]
        · skip
          by_cases c5 : 99 < a
          · simp only [c1, Int32.not_lt.mp c1, c2, Int32.not_lt.mp c2, c3, Int32.not_lt.mp c3, c4, Int32.not_lt.mp c4, c5, Int32.not_le.mpr c5, true_or, or_true, or_self, false_or, or_false, not_true, not_false_eq_true, Classical.not_not, z_10, z_iT, z_iF]
          · skip
            by_cases c6 : 99 < b
            · simp only [c1, Int32.not_lt.mp c1, c2, Int32.not_lt.mp c2, c3, Int32.not_lt.mp c3, c4, Int32.not_lt.mp c4, c5, Int32.not_lt.mp c5, c6, Int32.not_le.mpr c6, true_or, or_true, or_self, false_or, or_false, not_true, not_false_eq_true, Classical.not_not, z_10, z_iT, z_iF]
            · skip
              by_cases c7 : 999 < e
              · simp only [c1, Int32.not_lt.mp c1, c2, Int32.not_lt.mp c2, c3, Int32.not_lt.mp c3, c4, Int32.not_lt.mp c4, c5, Int32.not_lt.mp c5, c6, Int32.not_lt.mp c6, c7, Int32.not_le.mpr c7, true_or, or_true, or_self, false_or, or_false, not_true, not_false_eq_true, Classical.not_not, z_10, z_iT, z_iF]
              · skip
                by_cases c8 : 999 < f
                · simp only [c1, Int32.not_lt.mp c1, c2, Int32.not_lt.mp c2, c3, Int32.not_lt.mp c3, c4, Int32.not_lt.mp c4, c5, Int32.not_lt.mp c5, c6, Int32.not_lt.mp c6, c7, Int32.not_lt.mp c7, c8, Int32.not_le.mpr c8, true_or, or_true, or_self, false_or, or_false, not_true, not_false_eq_true, Classical.not_not, z_10, z_iT, z_iF]
                · skip
                  by_cases c9 : 8 ≤ nI n
                  · simp only [c1, Int32.not_lt.mp c1, c2, Int32.not_lt.mp c2, c3, Int32.not_lt.mp c3, c4, Int32.not_lt.mp c4, c5, Int32.not_lt.mp c5, c6, Int32.not_lt.mp c6, c7, Int32.not_lt.mp c7, c8, Int32.not_lt.mp c8, c9, Int32.not_lt.mpr c9, true_or, or_true, or_self, false_or, or_false, not_true, not_false_eq_true, Classical.not_not, z_10, z_iT, z_iF]
                  · skip
                    simp only [c1, Int32.not_lt.mp c1, c2, Int32.not_lt.mp c2, c3, Int32.not_lt.mp c3, c4, Int32.not_lt.mp c4, c5, Int32.not_lt.mp c5, c6, Int32.not_lt.mp c6, c7, Int32.not_lt.mp c7, c8, Int32.not_lt.mp c8, c9, Int32.not_le.mp c9, true_or, or_true, or_self, false_or, or_false, not_true, not_false_eq_true, Classical.not_not, z_10, z_iT, z_iF]
                    have hlt : n < 8 := z_lt60 (m := 8) rfl (by decide) hn c9
                    simp only [z_st72a hlt, z_st72b hlt, z_st72c hlt, z_st72d hlt, z_bs, g_52_26, g_52_27, p_52_26, z_upsE, Nat.reduceEqDiff, z_iF, z_iT, hS, z_T183]
theorem S_ramp (h_I_ref : I_ref S) (h_I_rmp : I_rmp S) (a b e f : Int32) : z_R2 (fun h => z_cI 2 102 [.inr (.inr (some 6)), .inl a, .inl b, .inl e, .inl f] h) (fun h => z_cI 2 183 [.inr (.inr (some 52)), .inl a, .inl b, .inl e, .inl f] h) L Dh S R nx sl A_rmp K_rmp (fun S => I_ref S ∧ I_rmp S) := by
  obtain ⟨n, h1, h2, h3, h4⟩ := id h_I_rmp
  by_cases d1 : a < 1 ∨ b < 1 ∨ e < 1 ∨ f < 1
  · refine z_R2_no z_code4 rfl rfl h_I_ref ?_ ?_ ⟨z_no_ref h_I_ref z_code4, z_no_rmp h_I_rmp⟩
    · show z_cI 2 102 _ _ = _
      rw [M102 h1 h2, if_pos d1]
    · show z_cI 2 183 _ _ = _
      rw [M183 (S := z_no 7 S (-4)) h1 h3, if_pos d1]
  · skip
    by_cases d2 : 99 < a ∨ 99 < b ∨ 999 < e ∨ 999 < f ∨ 8 ≤ nI n
    · refine z_R2_no z_code6 rfl rfl h_I_ref ?_ ?_ ⟨z_no_ref h_I_ref z_code6, z_no_rmp h_I_rmp⟩
      · show z_cI 2 102 _ _ = _
        rw [M102 h1 h2, if_neg d1, if_pos d2]
      · show z_cI 2 183 _ _ = _
        rw [M183 (S := z_no 7 S (-6)) h1 h3, if_neg d1, if_pos d2]
    · skip
      have hlt : n < 8 := z_lt60 (m := 8) rfl (by decide) h1 (fun q => d2 (Or.inr (Or.inr (Or.inr (Or.inr q)))))
      refine ⟨nI n + 1 - 1, z_T35 S n a b e f, z_T183 (z_T35 S n a b e f) n a b e f, ?_, ?_, ?_, I_ref_fr h_I_ref ⟨rfl, rfl⟩, ?_⟩
      · show z_cI 2 102 _ _ = _
        rw [M102 h1 h2, if_neg d1, if_neg d2]
      · show z_cI 2 183 _ _ = _
        rw [M183 (S := z_T35 S n a b e f) h1 h3, if_neg d1, if_neg d2]
      · unfold z_T183 z_T35
        refine z_fr_upm ?_ rfl
        repeat (first | exact z_fr_id | refine z_fr_ups ?_ rfl (by decide))
      · refine ⟨n + 1, by omega, ?_, ?_, fun i hi => ?_⟩
        · show nI n + 1 = nI (n + 1)
          exact nI_1 n
        · show nI n + 1 = nI (n + 1)
          exact nI_1 n
        · by_cases hin : i = n
          · subst hin
            unfold z_T183 z_T35
            simp only [z_upsE, Nat.reduceEqDiff, z_iF, z_iT, show ¬ (i * 4 = i * 4 + 1) by omega, show ¬ (i * 4 = i * 4 + 2) by omega, show ¬ (i * 4 = i * 4 + 3) by omega, show ¬ (i * 4 + 0 = i * 4 + 1) by omega, show ¬ (i * 4 + 0 = i * 4 + 2) by omega, show ¬ (i * 4 + 0 = i * 4 + 3) by omega]
            exact ⟨by trivial, by trivial, by trivial, by trivial, z_le.mp (Int32.not_lt.mp (fun q => d1 (Or.inr (Or.inl q))))⟩
          · have hlt2 : i < n := by omega
            have hne : ∀ a b : Nat, a < 4 → b < 4 → ¬ (i * 4 + a = n * 4 + b) := fun a b ha hb => by omega
            unfold z_T183 z_T35
            simp only [z_upsE, Nat.reduceEqDiff, z_iF, z_iT, hin, hne 0 0 (by decide) (by decide), hne 0 1 (by decide) (by decide), hne 0 2 (by decide) (by decide), hne 0 3 (by decide) (by decide), hne 1 0 (by decide) (by decide), hne 1 1 (by decide) (by decide), hne 1 2 (by decide) (by decide), hne 1 3 (by decide) (by decide), hne 2 0 (by decide) (by decide), hne 2 1 (by decide) (by decide), hne 2 2 (by decide) (by decide), hne 2 3 (by decide) (by decide), hne 3 0 (by decide) (by decide), hne 3 1 (by decide) (by decide), hne 3 2 (by decide) (by decide), hne 3 3 (by decide) (by decide)]
            exact h4 i hlt2
def z_land (a b v : Int32) : Int32 := v * (v * a / b + 1)
theorem M36 {i : Nat} (hi : i < 8) (hb : 1 ≤ (S 25 i).toInt) {v : Int32} : z_cI 2 36 [.inr (.inr (some 23)), .inl (nI i), .inl v] (z_mk L Dh S R nx sl) = some (z_land (S 24 i) (S 25 i) v, z_mk L Dh S R nx sl) := by
  have h1 : z_in (nI i) 8 = true := z_in_nI hi (by decide)
  have h2 : (nI i).toNatClampNeg = i := z_cl (by omega)
  rw [E36]
  simp only [g_23_0, g_23_1, z_bs, l_24 h1, l_25 h1, h2, M229]
  have e : (if (1 : Int32) < S 25 i then S 25 i else 1) = S 25 i := by
    by_cases h : (1 : Int32) < S 25 i
    · rw [if_pos h]
    · rw [if_neg h, z_eq]
      have e1 : (1 : Int32).toInt = 1 := rfl
      have h3 : ¬ (1 : Int32).toInt < (S 25 i).toInt := fun q => h (z_lt.mpr q)
      omega
  rw [e, if_neg (fun q => by rw [q] at hb; exact absurd hb (by decide))]
  rfl
theorem M184 {i : Nat} (hi : i < 8) (hb : 1 ≤ (S 72 (i * 4 + 1)).toInt) {v : Int32} : z_cI 1 184 [.inr (.inr (some 52)), .inl (nI i), .inl v] (z_mk L Dh S R nx sl) = some (z_land (S 72 (i * 4 + 0)) (S 72 (i * 4 + 1)) v, z_mk L Dh S R nx sl) := by
  rw [E184]
  simp only [g_52_27, z_bs, z_ld72a hi, z_ld72b hi]
  rw [if_neg (fun q => by rw [q] at hb; exact absurd hb (by decide))]
  rfl
/-- a place among n -/
theorem z_plc {x : Int32} {n : Nat} (hn : n < 2147483648) (c1 : ¬ x < 0) (c2 : ¬ nI n ≤ x) : ∃ i : Nat, i < n ∧ x = nI i := by
  obtain ⟨j, hj, e, -⟩ := z_nat (x := x) (n := n) (by have := z_le.mp (Int32.not_lt.mp c1); exact this) (by have := z_lt.mp (Int32.not_le.mp c2); rw [z_nI hn] at this; exact this)
  exact ⟨j, hj, e⟩
theorem M103 {n : Nat} (hn : n ≤ 8) (hS : S 23 4 = nI n) (hb : ∀ i, i < n → 1 ≤ (S 25 i).toInt) {i v : Int32} : z_cI 3 103 [.inr (.inr (some 6)), .inl i, .inl v] (z_mk L Dh S R nx sl) = if i < 0 ∨ nI n ≤ i then some (-1, z_mk L Dh (z_no 7 S (-1)) R nx sl) else if v < 1 then some (-4, z_mk L Dh (z_no 7 S (-4)) R nx sl) else if 99 < v then some (-6, z_mk L Dh (z_no 7 S (-6)) R nx sl) else some (z_land (S 24 i.toNatClampNeg) (S 25 i.toNatClampNeg) v, z_mk L Dh S R nx sl) := by
  rw [E103]
  simp only [z_bs, M122 z_code1, M122 z_code4, M122 z_code6, o_6, o_23, g_6_4, g_23_4, hS]
  by_cases c1 : i < 0
  · simp only [c1, Int32.not_le.mpr c1, true_or, or_true, or_self, false_or, or_false, not_true, not_false_eq_true, Classical.not_not, z_10, z_iT, z_iF]
  · skip
    by_cases c2 : nI n ≤ i
    · simp only [c1, Int32.not_lt.mp c1, c2, Int32.not_lt.mpr c2, true_or, or_true, or_self, false_or, or_false, not_true, not_false_eq_true, Classical.not_not, z_10, z_iT, z_iF]
    · skip
      by_cases c3 : v < 1
      · simp only [c1, Int32.not_lt.mp c1, c2, Int32.not_le.mp c2, c3, Int32.not_le.mpr c3, true_or, or_true, or_self, false_or, or_false, not_true, not_false_eq_true, Classical.not_not, z_10, z_iT, z_iF]
      · skip
        by_cases c4 : 99 < v
        · simp only [c1, Int32.not_lt.mp c1, c2, Int32.not_le.mp c2, c3, Int32.not_lt.mp c3, c4, Int32.not_le.mpr c4, true_or, or_true, or_self, false_or, or_false, not_true, not_false_eq_true, Classical.not_not, z_10, z_iT, z_iF]
        · skip
          simp only [c1, Int32.not_lt.mp c1, c2, Int32.not_le.mp c2, c3, Int32.not_lt.mp c3, c4, Int32.not_lt.mp c4, true_or, or_true, or_self, false_or, or_false, not_true, not_false_eq_true, Classical.not_not, z_10, z_iT, z_iF]
          obtain ⟨j, hj, rfl⟩ := z_plc (by omega) c1 c2
          rw [M36 (by omega) (hb j hj), z_cl (by omega)]
          simp only [z_bs]
theorem M185 {n : Nat} (hn : n ≤ 8) (hS : S 52 26 = nI n) (hb : ∀ i, i < n → 1 ≤ (S 72 (i * 4 + 1)).toInt) {i v : Int32} : z_cI 2 185 [.inr (.inr (some 52)), .inl i, .inl v] (z_mk L Dh S R nx sl) = if i < 0 ∨ nI n ≤ i then some (-1, z_mk L Dh (z_no 86 S (-1)) R nx sl) else if v < 1 then some (-4, z_mk L Dh (z_no 86 S (-4)) R nx sl) else if 99 < v then some (-6, z_mk L Dh (z_no 86 S (-6)) R nx sl) else some (z_land (S 72 (i.toNatClampNeg * 4 + 0)) (S 72 (i.toNatClampNeg * 4 + 1)) v, z_mk L Dh S R nx sl) := by
  rw [E185]
  simp only [z_bs, M131 z_code1, M131 z_code4, M131 z_code6, o_52, g_52_26, hS]
  by_cases c1 : i < 0
  · simp only [c1, Int32.not_le.mpr c1, true_or, or_true, or_self, false_or, or_false, not_true, not_false_eq_true, Classical.not_not, z_10, z_iT, z_iF]
  · skip
    by_cases c2 : nI n ≤ i
    · simp only [c1, Int32.not_lt.mp c1, c2, Int32.not_lt.mpr c2, true_or, or_true, or_self, false_or, or_false, not_true, not_false_eq_true, Classical.not_not, z_10, z_iT, z_iF]
    · skip
      by_cases c3 : v < 1
      · simp only [c1, Int32.not_lt.mp c1, c2, Int32.not_le.mp c2, c3, Int32.not_le.mpr c3, true_or, or_true, or_self, false_or, or_false, not_true, not_false_eq_true, Classical.not_not, z_10, z_iT, z_iF]
      · skip
        by_cases c4 : 99 < v
        · simp only [c1, Int32.not_lt.mp c1, c2, Int32.not_le.mp c2, c3, Int32.not_lt.mp c3, c4, Int32.not_le.mpr c4, true_or, or_true, or_self, false_or, or_false, not_true, not_false_eq_true, Classical.not_not, z_10, z_iT, z_iF]
        · skip
          simp only [c1, Int32.not_lt.mp c1, c2, Int32.not_le.mp c2, c3, Int32.not_lt.mp c3, c4, Int32.not_lt.mp c4, true_or, or_true, or_self, false_or, or_false, not_true, not_false_eq_true, Classical.not_not, z_10, z_iT, z_iF]
          obtain ⟨j, hj, rfl⟩ := z_plc (by omega) c1 c2
          rw [M184 (by omega) (hb j hj), z_cl (by omega)]
          simp only [z_bs]
theorem S_lands (h_I_ref : I_ref S) (h_I_rmp : I_rmp S) (i v : Int32) : z_R2 (fun h => z_cI 3 103 [.inr (.inr (some 6)), .inl i, .inl v] h) (fun h => z_cI 2 185 [.inr (.inr (some 52)), .inl i, .inl v] h) L Dh S R nx sl A_rmp K_rmp (fun S => I_ref S ∧ I_rmp S) := by
  obtain ⟨n, h1, h2, h3, h4⟩ := id h_I_rmp
  have hb : ∀ i, i < n → 1 ≤ (S 25 i).toInt := fun i hi => (h4 i hi).2.2.2.2
  have hb2 : ∀ i, i < n → 1 ≤ (S 72 (i * 4 + 1)).toInt := fun i hi => by rw [← (h4 i hi).2.1]; exact hb i hi
  by_cases d1 : i < 0 ∨ nI n ≤ i
  · refine z_R2_no z_code1 rfl rfl h_I_ref ?_ ?_ ⟨z_no_ref h_I_ref z_code1, z_no_rmp h_I_rmp⟩
    · show z_cI 3 103 _ _ = _
      rw [M103 h1 h2 hb, if_pos d1]
    · show z_cI 2 185 _ _ = _
      rw [M185 (S := z_no 7 S (-1)) h1 h3 hb2, if_pos d1]
  · skip
    by_cases d2 : v < 1
    · refine z_R2_no z_code4 rfl rfl h_I_ref ?_ ?_ ⟨z_no_ref h_I_ref z_code4, z_no_rmp h_I_rmp⟩
      · show z_cI 3 103 _ _ = _
        rw [M103 h1 h2 hb, if_neg d1, if_pos d2]
      · show z_cI 2 185 _ _ = _
        rw [M185 (S := z_no 7 S (-4)) h1 h3 hb2, if_neg d1, if_pos d2]
    · skip
      by_cases d3 : 99 < v
      · refine z_R2_no z_code6 rfl rfl h_I_ref ?_ ?_ ⟨z_no_ref h_I_ref z_code6, z_no_rmp h_I_rmp⟩
        · show z_cI 3 103 _ _ = _
          rw [M103 h1 h2 hb, if_neg d1, if_neg d2, if_pos d3]
        · show z_cI 2 185 _ _ = _
          rw [M185 (S := z_no 7 S (-6)) h1 h3 hb2, if_neg d1, if_neg d2, if_pos d3]
      · skip
        obtain ⟨j, hj, rfl⟩ := z_plc (by omega) (fun q => d1 (Or.inl q)) (fun q => d1 (Or.inr q))
        obtain ⟨k1, k2, k3, k4, k5⟩ := h4 j hj
        refine z_R2_q (r := z_land (S 24 j) (S 25 j) v) ?_ ?_ ⟨h_I_ref, h_I_rmp⟩
        · show z_cI 3 103 _ _ = _
          rw [M103 h1 h2 hb, if_neg d1, if_neg d2, if_neg d3, z_cl (by omega)]
        · show z_cI 2 185 _ _ = _
          rw [M185 h1 h3 hb2, if_neg d1, if_neg d2, if_neg d3, z_cl (by omega), k1, k2]
def A_row (a : Nat) : Bool := decide (a ∈ [7, 28, 37, 76, 86])
def K_row (k : Nat) : Bool := decide (k ∈ [35])
def I_row (S : Nat → Nat → Int32) : Prop := ∃ n : Nat, n ≤ 12 ∧ S 28 13 = nI n ∧ S 52 35 = nI n ∧ ∀ i, i < n → S 37 i = S 76 i
theorem I_row_fr {S S' : Nat → Nat → Int32} (h : I_row S) (e : S' 28 13 = S 28 13 ∧ S' 37 = S 37 ∧ S' 76 = S 76 ∧ S' 52 35 = S 52 35) : I_row S' := by
  obtain ⟨e1, e2, e3, e4⟩ := e
  unfold I_row
  rw [e1, e2, e3, e4]
  exact h
theorem z_no_row {c : Int32} (h : I_row S) : I_row (z_no 86 (z_no 7 S c) c) := I_row_fr h ⟨rfl, rfl, rfl, rfl⟩
theorem M23 {n : Nat} (hn : n < 12) (hS : S 28 13 = nI n) {v : Int32} : z_cI 1 23 [.inr (.inr (some 28)), .inl v] (z_mk L Dh S R nx sl) = some (nI n + 1, z_mk L Dh (z_ups (z_ups S 37 n v) 28 13 (nI n + 1)) R nx sl) := by
  have h1 : z_in (nI n) 12 = true := z_in_nI hn (by decide)
  have h2 : (nI n).toNatClampNeg = n := z_cl (by omega)
  rw [E23]
  simp only [g_28_12, g_28_13, p_28_13, z_bs, s_37, h1, h2, hS, z_upsE, Nat.reduceEqDiff, z_iF, z_iT]
theorem M109 {n : Nat} (hn : n ≤ 12) (hS : S 28 13 = nI n) {v : Int32} : z_cI 2 109 [.inr (.inr (some 6)), .inl v] (z_mk L Dh S R nx sl) = if v < -128 then some (-4, z_mk L Dh (z_no 7 S (-4)) R nx sl) else if 127 < v ∨ 12 ≤ nI n then some (-6, z_mk L Dh (z_no 7 S (-6)) R nx sl) else some (nI n + 1, z_mk L Dh (z_ups (z_ups S 37 n v) 28 13 (nI n + 1)) R nx sl) := by
  rw [E109]
  simp only [z_bs, M122 z_code4, M122 z_code6, o_6, o_28, g_6_5, g_28_13, hS]
  by_cases c1 : v < -128
  · simp only [c1, Int32.not_le.mpr c1, true_or, or_true, or_self, false_or, or_false, not_true, not_false_eq_true, Classical.not_not, z_10, z_iT, z_iF]
  · skip
    by_cases c2 : 127 < v
    · simp only [c1, Int32.not_lt.mp c1, c2, Int32.not_le.mpr c2, true_or, or_true, or_self, false_or, or_false, not_true, not_false_eq_true, Classical.not_not, z_10, z_iT, z_iF]
    · skip
      by_cases c3 : 12 ≤ nI n
      · simp only [c1, Int32.not_lt.mp c1, c2, Int32.not_lt.mp c2, c3, Int32.not_lt.mpr c3, true_or, or_true, or_self, false_or, or_false, not_true, not_false_eq_true, Classical.not_not, z_10, z_iT, z_iF]
      · skip
        simp only [c1, Int32.not_lt.mp c1, c2, Int32.not_lt.mp c2, c3, Int32.not_le.mp c3, true_or, or_true, or_self, false_or, or_false, not_true, not_false_eq_true, Classical.not_not, z_10, z_iT, z_iF]
        rw [M23 (z_lt60 (m := 12) rfl (by decide) hn c3) hS]
        simp only [z_bs]
theorem M195 {n : Nat} (hn : n ≤ 12) (hS : S 52 35 = nI n) {v : Int32} : z_cI 2 195 [.inr (.inr (some 52)), .inl v] (z_mk L Dh S R nx sl) = if v < -128 then some (-4, z_mk L Dh (z_no 86 S (-4)) R nx sl) else if 127 < v ∨ 12 ≤ nI n then some (-6, z_mk L Dh (z_no 86 S (-6)) R nx sl) else some (nI n + 1, z_mk L Dh (z_ups (z_ups S 76 n v) 52 35 (nI n + 1)) R nx sl) := by
  rw [E195]
  simp only [z_bs, M131 z_code4, M131 z_code6, o_52, g_52_35, g_52_34, hS, z_full hn (show (12 : Int32) = nI 12 from rfl) (by decide)]
  by_cases c1 : v < -128
  · simp only [c1, Int32.not_le.mpr c1, true_or, or_true, or_self, false_or, or_false, not_true, not_false_eq_true, Classical.not_not, z_10, z_iT, z_iF]
  · skip
    by_cases c2 : 127 < v
    · simp only [c1, Int32.not_lt.mp c1, c2, Int32.not_le.mpr c2, true_or, or_true, or_self, false_or, or_false, not_true, not_false_eq_true, Classical.not_not, z_10, z_iT, z_iF]
    · skip
      by_cases c3 : 12 ≤ nI n
      · simp only [c1, Int32.not_lt.mp c1, c2, Int32.not_lt.mp c2, c3, Int32.not_lt.mpr c3, true_or, or_true, or_self, false_or, or_false, not_true, not_false_eq_true, Classical.not_not, z_10, z_iT, z_iF]
      · skip
        simp only [c1, Int32.not_lt.mp c1, c2, Int32.not_lt.mp c2, c3, Int32.not_le.mp c3, true_or, or_true, or_self, false_or, or_false, not_true, not_false_eq_true, Classical.not_not, z_10, z_iT, z_iF]
        have hlt : n < 12 := z_lt60 (m := 12) rfl (by decide) hn c3
        have h1 : z_in (nI n) 12 = true := z_in_nI hlt (by decide)
        have h2 : (nI n).toNatClampNeg = n := z_cl (by omega)
        simp only [s_76 h1, h2, z_bs, g_52_35, p_52_35, z_upsE, Nat.reduceEqDiff, z_iF, z_iT, hS]
theorem S_put (h_I_ref : I_ref S) (h_I_row : I_row S) (v : Int32) : z_R2 (fun h => z_cI 2 109 [.inr (.inr (some 6)), .inl v] h) (fun h => z_cI 2 195 [.inr (.inr (some 52)), .inl v] h) L Dh S R nx sl A_row K_row (fun S => I_ref S ∧ I_row S) := by
  obtain ⟨n, h1, h2, h3, h4⟩ := id h_I_row
  by_cases d1 : v < -128
  · refine z_R2_no z_code4 rfl rfl h_I_ref ?_ ?_ ⟨z_no_ref h_I_ref z_code4, z_no_row h_I_row⟩
    · show z_cI 2 109 _ _ = _
      rw [M109 h1 h2, if_pos d1]
    · show z_cI 2 195 _ _ = _
      rw [M195 (S := z_no 7 S (-4)) h1 h3, if_pos d1]
  · skip
    by_cases d2 : 127 < v ∨ 12 ≤ nI n
    · refine z_R2_no z_code6 rfl rfl h_I_ref ?_ ?_ ⟨z_no_ref h_I_ref z_code6, z_no_row h_I_row⟩
      · show z_cI 2 109 _ _ = _
        rw [M109 h1 h2, if_neg d1, if_pos d2]
      · show z_cI 2 195 _ _ = _
        rw [M195 (S := z_no 7 S (-6)) h1 h3, if_neg d1, if_pos d2]
    · skip
      have hlt : n < 12 := z_lt60 (m := 12) rfl (by decide) h1 (fun q => d2 (Or.inr q))
      refine ⟨nI n + 1, z_ups (z_ups S 37 n v) 28 13 (nI n + 1), z_ups (z_ups (z_ups (z_ups S 37 n v) 28 13 (nI n + 1)) 76 n v) 52 35 (nI n + 1), ?_, ?_, z_fr_upm (z_fr_ups (z_fr_ups (z_fr_ups z_fr_id rfl (by decide)) rfl (by decide)) rfl (by decide)) rfl, I_ref_fr h_I_ref ⟨rfl, rfl⟩, ?_⟩
      · show z_cI 2 109 _ _ = _
        rw [M109 h1 h2, if_neg d1, if_neg d2]
      · show z_cI 2 195 _ _ = _
        rw [M195 (S := z_ups (z_ups S 37 n v) 28 13 (nI n + 1)) h1 h3, if_neg d1, if_neg d2]
      · refine ⟨n + 1, by omega, ?_, ?_, fun i hi => ?_⟩
        · show nI n + 1 = nI (n + 1)
          exact nI_1 n
        · show nI n + 1 = nI (n + 1)
          exact nI_1 n
        · simp only [z_upsE, Nat.reduceEqDiff, z_iF, z_iT]
          by_cases hin : i = n
          · rw [if_pos hin, if_pos hin]
          · rw [if_neg hin, if_neg hin]
            exact h4 i (by omega)
end ZRX
