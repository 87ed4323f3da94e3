section ZSS
variable {L : Nat} {Dh : Nat → z_Sh} {S : Nat → Nat → Int32} {R : Nat → Nat → Option Nat} {nx sl : Nat}
/-! cameras: cell, direction, wide, reach, from, to -/
abbrev y_Cm : Type := Nat × Nat × Nat × Nat × Nat × Nat
def y_kok (c : y_Cm) : Prop := c.1 < 400 ∧ c.2.1 < 8 ∧ c.2.2.1 ≤ 2 ∧ 1 ≤ c.2.2.2.1 ∧ c.2.2.2.1 ≤ 19 ∧ c.2.2.2.2.1 ≤ c.2.2.2.2.2 ∧ c.2.2.2.2.2 ≤ 600
def y_Kb (Dh : Nat → z_Sh) (S : Nat → Nat → Int32) (a : Nat) (c : y_Cm) : Prop := 87 ≤ a ∧ Dh a = .inr (.inr (0, [0, 0, 0, 0, 0, 0])) ∧ S a 0 = nI c.1 ∧ S a 1 = nI c.2.1 ∧ S a 2 = nI c.2.2.1 ∧ S a 3 = nI c.2.2.2.1 ∧ S a 4 = nI c.2.2.2.2.1 ∧ S a 5 = nI c.2.2.2.2.2
def y_Km (S : Nat → Nat → Int32) (i : Nat) (c : y_Cm) : Prop := S 63 (i * 6 + 0) = nI c.1 ∧ S 63 (i * 6 + 1) = nI c.2.1 ∧ S 63 (i * 6 + 2) = nI c.2.2.1 ∧ S 63 (i * 6 + 3) = nI c.2.2.2.1 ∧ S 63 (i * 6 + 4) = nI c.2.2.2.2.1 ∧ S 63 (i * 6 + 5) = nI c.2.2.2.2.2
def J_cam (cs : List y_Cm) (ca : Nat → Nat) (Dh : Nat → z_Sh) (S : Nat → Nat → Int32) (R : Nat → Nat → Option Nat) (nx : Nat) : Prop :=
  cs.length ≤ 8 ∧ S 16 1 = nI cs.length ∧ S 52 12 = nI cs.length ∧ ∀ i (hi : i < cs.length), R 17 i = some (ca i) ∧ ca i < nx ∧ y_kok cs[i] ∧ y_Kb Dh S (ca i) cs[i] ∧ y_Km S i cs[i]
variable {cs : List y_Cm} {ca : Nat → Nat} {a : Nat} {c : y_Cm}
theorem k_o (h : y_Kb Dh S a c) : z_ob (z_mk L Dh S R nx sl) (some a) 0 = some () := m_ob ((y_shp h.1).trans h.2.1)
theorem k_g0 (h : y_Kb Dh S a c) : z_gI (z_mk L Dh S R nx sl) (some a) 0 0 = some (nI c.1) := by rw [m_gI ((y_shp h.1).trans h.2.1) rfl (by decide)]; exact congrArg some h.2.2.1
theorem k_g1 (h : y_Kb Dh S a c) : z_gI (z_mk L Dh S R nx sl) (some a) 0 1 = some (nI c.2.1) := by rw [m_gI ((y_shp h.1).trans h.2.1) rfl (by decide)]; exact congrArg some h.2.2.2.1
theorem k_g2 (h : y_Kb Dh S a c) : z_gI (z_mk L Dh S R nx sl) (some a) 0 2 = some (nI c.2.2.1) := by rw [m_gI ((y_shp h.1).trans h.2.1) rfl (by decide)]; exact congrArg some h.2.2.2.2.1
theorem k_g3 (h : y_Kb Dh S a c) : z_gI (z_mk L Dh S R nx sl) (some a) 0 3 = some (nI c.2.2.2.1) := by rw [m_gI ((y_shp h.1).trans h.2.1) rfl (by decide)]; exact congrArg some h.2.2.2.2.2.1
theorem k_g4 (h : y_Kb Dh S a c) : z_gI (z_mk L Dh S R nx sl) (some a) 0 4 = some (nI c.2.2.2.2.1) := by rw [m_gI ((y_shp h.1).trans h.2.1) rfl (by decide)]; exact congrArg some h.2.2.2.2.2.2.1
theorem k_g5 (h : y_Kb Dh S a c) : z_gI (z_mk L Dh S R nx sl) (some a) 0 5 = some (nI c.2.2.2.2.2) := by rw [m_gI ((y_shp h.1).trans h.2.1) rfl (by decide)]; exact congrArg some h.2.2.2.2.2.2.2
theorem y_6 (i k : Nat) : nI i * 6 + nI k = nI (i * 6 + k) := z_pl i 6 k
theorem k_l0 {i : Nat} (hi : i < 8) (h : y_Km S i c) : z_ldI (z_mk L Dh S R nx sl) (some 63) (nI i * 6) = some (nI c.1) := by rw [show nI i * 6 = nI (i * 6 + 0) from (Int32.add_zero _).symm.trans (y_6 i 0), l_63 (z_in_nI (by omega) (by decide)), z_cl (by omega)]; exact congrArg some h.1
theorem k_s0 {i : Nat} {x : Int32} (hi : i < 8) : z_stI (z_mk L Dh S R nx sl) (some 63) (nI i * 6) x = some (z_mk L Dh (z_ups S 63 (i * 6 + 0) x) R nx sl) := by rw [show nI i * 6 = nI (i * 6 + 0) from (Int32.add_zero _).symm.trans (y_6 i 0), s_63 (z_in_nI (by omega) (by decide)), z_cl (by omega)]
theorem k_l1 {i : Nat} (hi : i < 8) (h : y_Km S i c) : z_ldI (z_mk L Dh S R nx sl) (some 63) (nI i * 6 + 1) = some (nI c.2.1) := by rw [show nI i * 6 + 1 = nI (i * 6 + 1) from y_6 i 1, l_63 (z_in_nI (by omega) (by decide)), z_cl (by omega)]; exact congrArg some h.2.1
theorem k_s1 {i : Nat} {x : Int32} (hi : i < 8) : z_stI (z_mk L Dh S R nx sl) (some 63) (nI i * 6 + 1) x = some (z_mk L Dh (z_ups S 63 (i * 6 + 1) x) R nx sl) := by rw [show nI i * 6 + 1 = nI (i * 6 + 1) from y_6 i 1, s_63 (z_in_nI (by omega) (by decide)), z_cl (by omega)]
theorem k_l2 {i : Nat} (hi : i < 8) (h : y_Km S i c) : z_ldI (z_mk L Dh S R nx sl) (some 63) (nI i * 6 + 2) = some (nI c.2.2.1) := by rw [show nI i * 6 + 2 = nI (i * 6 + 2) from y_6 i 2, l_63 (z_in_nI (by omega) (by decide)), z_cl (by omega)]; exact congrArg some h.2.2.1
theorem k_s2 {i : Nat} {x : Int32} (hi : i < 8) : z_stI (z_mk L Dh S R nx sl) (some 63) (nI i * 6 + 2) x = some (z_mk L Dh (z_ups S 63 (i * 6 + 2) x) R nx sl) := by rw [show nI i * 6 + 2 = nI (i * 6 + 2) from y_6 i 2, s_63 (z_in_nI (by omega) (by decide)), z_cl (by omega)]
theorem k_l3 {i : Nat} (hi : i < 8) (h : y_Km S i c) : z_ldI (z_mk L Dh S R nx sl) (some 63) (nI i * 6 + 3) = some (nI c.2.2.2.1) := by rw [show nI i * 6 + 3 = nI (i * 6 + 3) from y_6 i 3, l_63 (z_in_nI (by omega) (by decide)), z_cl (by omega)]; exact congrArg some h.2.2.2.1
theorem k_s3 {i : Nat} {x : Int32} (hi : i < 8) : z_stI (z_mk L Dh S R nx sl) (some 63) (nI i * 6 + 3) x = some (z_mk L Dh (z_ups S 63 (i * 6 + 3) x) R nx sl) := by rw [show nI i * 6 + 3 = nI (i * 6 + 3) from y_6 i 3, s_63 (z_in_nI (by omega) (by decide)), z_cl (by omega)]
theorem k_l4 {i : Nat} (hi : i < 8) (h : y_Km S i c) : z_ldI (z_mk L Dh S R nx sl) (some 63) (nI i * 6 + 4) = some (nI c.2.2.2.2.1) := by rw [show nI i * 6 + 4 = nI (i * 6 + 4) from y_6 i 4, l_63 (z_in_nI (by omega) (by decide)), z_cl (by omega)]; exact congrArg some h.2.2.2.2.1
theorem k_s4 {i : Nat} {x : Int32} (hi : i < 8) : z_stI (z_mk L Dh S R nx sl) (some 63) (nI i * 6 + 4) x = some (z_mk L Dh (z_ups S 63 (i * 6 + 4) x) R nx sl) := by rw [show nI i * 6 + 4 = nI (i * 6 + 4) from y_6 i 4, s_63 (z_in_nI (by omega) (by decide)), z_cl (by omega)]
theorem k_l5 {i : Nat} (hi : i < 8) (h : y_Km S i c) : z_ldI (z_mk L Dh S R nx sl) (some 63) (nI i * 6 + 5) = some (nI c.2.2.2.2.2) := by rw [show nI i * 6 + 5 = nI (i * 6 + 5) from y_6 i 5, l_63 (z_in_nI (by omega) (by decide)), z_cl (by omega)]; exact congrArg some h.2.2.2.2.2
theorem k_s5 {i : Nat} {x : Int32} (hi : i < 8) : z_stI (z_mk L Dh S R nx sl) (some 63) (nI i * 6 + 5) x = some (z_mk L Dh (z_ups S 63 (i * 6 + 5) x) R nx sl) := by rw [show nI i * 6 + 5 = nI (i * 6 + 5) from y_6 i 5, s_63 (z_in_nI (by omega) (by decide)), z_cl (by omega)]
theorem y_Kb_fr {D' : Nat → z_Sh} {S' : Nat → Nat → Int32} (h : y_Kb Dh S a c) (hD : D' a = Dh a) (hS : S' a = S a) : y_Kb D' S' a c := by
  unfold y_Kb
  rw [hD, hS]
  exact h
theorem y_Km_fr {S' : Nat → Nat → Int32} {i : Nat} (h : y_Km S i c) (hS : S' 63 = S 63) : y_Km S' i c := by
  unfold y_Km
  rw [hS]
  exact h
/-- nothing of the cameras is written -/
theorem J_cam_fr {D' : Nat → z_Sh} {S' : Nat → Nat → Int32} {R' : Nat → Nat → Option Nat} {nx' : Nat} (J : J_cam cs ca Dh S R nx) (h1 : S' 16 1 = S 16 1) (h2 : S' 52 12 = S 52 12) (h3 : S' 63 = S 63) (h4 : R' 17 = R 17) (hn : nx ≤ nx') (h5 : ∀ b, 87 ≤ b → b < nx → Dh b = .inr (.inr (0, [0, 0, 0, 0, 0, 0])) → D' b = Dh b ∧ S' b = S b) : J_cam cs ca D' S' R' nx' := by
  obtain ⟨j1, j2, j3, j4⟩ := J
  refine ⟨j1, h1.trans j2, h2.trans j3, fun i hi => ?_⟩
  obtain ⟨k1, k2, k3, k4, k5⟩ := j4 i hi
  have w := h5 _ k4.1 k2 k4.2.1
  exact ⟨by rw [h4]; exact k1, by omega, k3, y_Kb_fr k4 w.1 w.2, y_Km_fr k5 h3⟩
theorem y_cnm {b : Nat} (h : Dh b = .inr (.inr (0, [0, 0, 0, 0, 0, 0]))) : y_nm Dh b := by
  unfold y_nm
  rw [h]
  refine ⟨fun q => ?_, fun q => ?_, fun q => ?_⟩
  · have := Sum.inr.inj (Sum.inr.inj q)
    exact absurd (congrArg Prod.fst this) (by decide)
  · cases q
  · cases q
theorem J_cam_no {k : Int32} (J : J_cam cs ca Dh S R nx) : J_cam cs ca Dh (z_no 86 (z_no 7 S k) k) R nx := J_cam_fr J rfl rfl rfl rfl (Nat.le_refl _) (fun b hb _ _ => ⟨rfl, by rw [z_no_ne (by omega), z_no_ne (by omega)]⟩)
theorem M14 (J : J_cam cs ca Dh S R nx) {x : Int32} : z_cR 1 14 [.inr (.inr (some 16)), .inl x] (z_mk L Dh S R nx sl) = some (if x < 0 ∨ nI cs.length ≤ x then none else R 17 x.toNatClampNeg, z_mk L Dh S R nx sl) := by
  rw [E14]
  simp only [g_16_1, g_16_0, z_bs, J.2.1]
  by_cases c1 : x < 0
  · rw [if_pos c1, if_pos (Or.inl c1)]
  · rw [if_neg c1]
    by_cases c2 : nI cs.length ≤ x
    · rw [if_pos c2, if_pos (Or.inr c2)]
    · rw [if_neg c2, if_neg (fun q => q.elim c1 c2)]
      obtain ⟨j, hj, rfl⟩ := z_plc (by have := J.1; omega) c1 c2
      rw [l_17 (z_in_nI (by have := J.1; omega) (by decide))]
      simp only [z_bs]
theorem M14n (J : J_cam cs ca Dh S R nx) {i : Nat} (hi : i < cs.length) : z_cR 1 14 [.inr (.inr (some 16)), .inl (nI i)] (z_mk L Dh S R nx sl) = some (some (ca i), z_mk L Dh S R nx sl) := by
  have h12 := J.1
  rw [M14 J, if_neg (fun q => q.elim (nI_pos (by omega)) (nI_ge (by omega) (by omega))), z_cl (by omega), (J.2.2.2 i hi).1]
theorem M14x (J : J_cam cs ca Dh S R nx) {x : Int32} (hx : x < 0 ∨ nI cs.length ≤ x) : z_cR 1 14 [.inr (.inr (some 16)), .inl x] (z_mk L Dh S R nx sl) = some (none, z_mk L Dh S R nx sl) := by
  rw [M14 J, if_pos hx]
/-- a camera is made -/
def J_cmd (Dh : Nat → z_Sh) (S : Nat → Nat → Int32) (R : Nat → Nat → Option Nat) (nx sl : Nat) (D' : Nat → z_Sh) (S' : Nat → Nat → Int32) (R' : Nat → Nat → Option Nat) (nx' sl' : Nat) : Prop :=
  I_ref S' ∧ (∃ cs ca, J_cam cs ca D' S' R' nx') ∧ (∀ b, b < 87 → b ≠ 16 → b ≠ 52 → decide (b ∈ [7, 63, 86]) = false → S' b = S b) ∧ (∀ q, q ≠ 1 → S' 16 q = S 16 q) ∧ (∀ q, q ≠ 12 → S' 52 q = S 52 q) ∧ (∀ b, 87 ≤ b → b < nx → D' b = Dh b ∧ S' b = S b ∧ R' b = R b) ∧ (∀ b, b < 87 → b ≠ 17 → R' b = R b) ∧ nx ≤ nx' ∧ nx' ≤ nx + 6 ∧ sl' ≤ sl + 700
theorem J_cmd_no {k : Int32} (h_I_ref : I_ref S) (J : J_cam cs ca Dh S R nx) (hc : z_code k) : J_cmd Dh S R nx sl Dh (z_no 86 (z_no 7 S k) k) R nx sl := by
  have ne : ∀ b, b ≠ 7 → b ≠ 86 → z_no 86 (z_no 7 S k) k b = S b := fun b q1 q2 => by rw [z_no_ne q2, z_no_ne q1]
  refine ⟨z_no_ref h_I_ref hc, ⟨cs, ca, J_cam_no J⟩, fun b _ _ _ hm => ?_, fun q _ => by rw [ne 16 (by decide) (by decide)], fun q _ => by rw [ne 52 (by decide) (by decide)], fun b hb _ => ⟨rfl, ne b (by omega) (by omega), rfl⟩, fun _ _ _ => rfl, Nat.le_refl _, by omega, by omega⟩
  have hm := of_decide_eq_false hm
  exact ne b (fun q => hm (by rw [q]; decide)) (fun q => hm (by rw [q]; decide))
theorem y_lt8 {n : Nat} (h : n ≤ 8) : (nI n < 8) = ¬ (8 ≤ n) := propext ⟨fun h q => by have a := z_lt.mp h; rw [z_nI (by omega)] at a; have e1 : (8 : Int32).toInt = 8 := rfl; omega, fun q => z_lt.mpr (by rw [z_nI (by omega)]; have e1 : (8 : Int32).toInt = 8 := rfl; omega)⟩
theorem y_eq8 {n : Nat} (h : n ≤ 8) : (nI n = 8) = (8 ≤ n) := propext ⟨fun q => by have a := z_eq.mp q; rw [z_nI (by omega)] at a; have e1 : (8 : Int32).toInt = 8 := rfl; omega, fun q => z_eq.mpr (by rw [z_nI (by omega)]; have e1 : (8 : Int32).toInt = 8 := rfl; omega)⟩
theorem z_ii {α : Type} (p : Prop) (d : Decidable p) (a : α) : (@ite α p d a a) = a := by
  by_cases h : p
  · rw [if_pos h]
  · rw [if_neg h]
theorem S_camera (h87 : 87 ≤ nx) (h_I_ref : I_ref S) (J : J_cam cs ca Dh S R nx) (x d w r f u : Int32) : z_R3 (fun h => z_cI 2 93 [.inr (.inr (some 6)), .inl x, .inl d, .inl w, .inl r, .inl f, .inl u] h) (fun h => z_cI 2 161 [.inr (.inr (some 52)), .inl x, .inl d, .inl w, .inl r, .inl f, .inl u] h) L Dh S R nx sl (J_cmd Dh S R nx sl) := by
  have h8' := J.1
  by_cases c1 : x < 0
  · refine z_R3_no z_code1 h_I_ref ?_ ?_ (J_cmd_no h_I_ref J z_code1)
    · show z_cI 2 93 _ _ = _
      rw [E93]
      simp only [M122 z_code1, z_bs, o_6, M123, M124, g_6_2, g_16_1, J.2.1, y_lt8 h8', z_ii, c1, Int32.not_le.mpr c1, true_or, or_true, or_self, false_or, or_false, not_true, not_false_eq_true, Classical.not_not, z_10, z_iT, z_iF]
    · show z_cI 2 161 _ _ = _
      rw [E161]
      simp only [M131 z_code1, z_bs, o_52, M132, z_le78, z_lt19, g_52_12, show (z_no 7 S (-1)) 52 12 = nI cs.length from J.2.2.1, y_eq8 h8', c1, Int32.not_le.mpr c1, true_or, or_true, or_self, false_or, or_false, not_true, not_false_eq_true, Classical.not_not, z_10, z_iT, z_iF]
  · skip
    by_cases c2 : 400 ≤ x
    · refine z_R3_no z_code1 h_I_ref ?_ ?_ (J_cmd_no h_I_ref J z_code1)
      · show z_cI 2 93 _ _ = _
        rw [E93]
        simp only [M122 z_code1, z_bs, o_6, M123, M124, g_6_2, g_16_1, J.2.1, y_lt8 h8', z_ii, c1, Int32.not_lt.mp c1, c2, Int32.not_lt.mpr c2, true_or, or_true, or_self, false_or, or_false, not_true, not_false_eq_true, Classical.not_not, z_10, z_iT, z_iF]
      · show z_cI 2 161 _ _ = _
        rw [E161]
        simp only [M131 z_code1, z_bs, o_52, M132, z_le78, z_lt19, g_52_12, show (z_no 7 S (-1)) 52 12 = nI cs.length from J.2.2.1, y_eq8 h8', c1, Int32.not_lt.mp c1, c2, Int32.not_lt.mpr c2, true_or, or_true, or_self, false_or, or_false, not_true, not_false_eq_true, Classical.not_not, z_10, z_iT, z_iF]
    · skip
      by_cases c3 : d < 0
      · refine z_R3_no z_code2 h_I_ref ?_ ?_ (J_cmd_no h_I_ref J z_code2)
        · show z_cI 2 93 _ _ = _
          rw [E93]
          simp only [M122 z_code2, z_bs, o_6, M123, M124, g_6_2, g_16_1, J.2.1, y_lt8 h8', z_ii, c1, Int32.not_lt.mp c1, c2, Int32.not_le.mp c2, c3, Int32.not_le.mpr c3, true_or, or_true, or_self, false_or, or_false, not_true, not_false_eq_true, Classical.not_not, z_10, z_iT, z_iF]
        · show z_cI 2 161 _ _ = _
          rw [E161]
          simp only [M131 z_code2, z_bs, o_52, M132, z_le78, z_lt19, g_52_12, show (z_no 7 S (-2)) 52 12 = nI cs.length from J.2.2.1, y_eq8 h8', c1, Int32.not_lt.mp c1, c2, Int32.not_le.mp c2, c3, Int32.not_le.mpr c3, true_or, or_true, or_self, false_or, or_false, not_true, not_false_eq_true, Classical.not_not, z_10, z_iT, z_iF]
      · skip
        by_cases c4 : 8 ≤ d
        · refine z_R3_no z_code2 h_I_ref ?_ ?_ (J_cmd_no h_I_ref J z_code2)
          · show z_cI 2 93 _ _ = _
            rw [E93]
            simp only [M122 z_code2, z_bs, o_6, M123, M124, g_6_2, g_16_1, J.2.1, y_lt8 h8', z_ii, c1, Int32.not_lt.mp c1, c2, Int32.not_le.mp c2, c3, Int32.not_lt.mp c3, c4, Int32.not_lt.mpr c4, true_or, or_true, or_self, false_or, or_false, not_true, not_false_eq_true, Classical.not_not, z_10, z_iT, z_iF]
          · show z_cI 2 161 _ _ = _
            rw [E161]
            simp only [M131 z_code2, z_bs, o_52, M132, z_le78, z_lt19, g_52_12, show (z_no 7 S (-2)) 52 12 = nI cs.length from J.2.2.1, y_eq8 h8', c1, Int32.not_lt.mp c1, c2, Int32.not_le.mp c2, c3, Int32.not_lt.mp c3, c4, Int32.not_lt.mpr c4, true_or, or_true, or_self, false_or, or_false, not_true, not_false_eq_true, Classical.not_not, z_10, z_iT, z_iF]
        · skip
          by_cases c5 : w < 0
          · refine z_R3_no z_code4 h_I_ref ?_ ?_ (J_cmd_no h_I_ref J z_code4)
            · show z_cI 2 93 _ _ = _
              rw [E93]
              simp only [M122 z_code4, z_bs, o_6, M123, M124, g_6_2, g_16_1, J.2.1, y_lt8 h8', z_ii, c1, Int32.not_lt.mp c1, c2, Int32.not_le.mp c2, c3, Int32.not_lt.mp c3, c4, Int32.not_le.mp c4, c5, Int32.not_le.mpr c5, true_or, or_true, or_self, false_or, or_false, not_true, not_false_eq_true, Classical.not_not, z_10, z_iT, z_iF]
            · show z_cI 2 161 _ _ = _
              rw [E161]
              simp only [M131 z_code4, z_bs, o_52, M132, z_le78, z_lt19, g_52_12, show (z_no 7 S (-4)) 52 12 = nI cs.length from J.2.2.1, y_eq8 h8', c1, Int32.not_lt.mp c1, c2, Int32.not_le.mp c2, c3, Int32.not_lt.mp c3, c4, Int32.not_le.mp c4, c5, Int32.not_le.mpr c5, true_or, or_true, or_self, false_or, or_false, not_true, not_false_eq_true, Classical.not_not, z_10, z_iT, z_iF]
          · skip
            by_cases c6 : r < 1
            · refine z_R3_no z_code4 h_I_ref ?_ ?_ (J_cmd_no h_I_ref J z_code4)
              · show z_cI 2 93 _ _ = _
                rw [E93]
                simp only [M122 z_code4, z_bs, o_6, M123, M124, g_6_2, g_16_1, J.2.1, y_lt8 h8', z_ii, c1, Int32.not_lt.mp c1, c2, Int32.not_le.mp c2, c3, Int32.not_lt.mp c3, c4, Int32.not_le.mp c4, c5, Int32.not_lt.mp c5, c6, Int32.not_le.mpr c6, true_or, or_true, or_self, false_or, or_false, not_true, not_false_eq_true, Classical.not_not, z_10, z_iT, z_iF]
              · show z_cI 2 161 _ _ = _
                rw [E161]
                simp only [M131 z_code4, z_bs, o_52, M132, z_le78, z_lt19, g_52_12, show (z_no 7 S (-4)) 52 12 = nI cs.length from J.2.2.1, y_eq8 h8', c1, Int32.not_lt.mp c1, c2, Int32.not_le.mp c2, c3, Int32.not_lt.mp c3, c4, Int32.not_le.mp c4, c5, Int32.not_lt.mp c5, c6, Int32.not_le.mpr c6, true_or, or_true, or_self, false_or, or_false, not_true, not_false_eq_true, Classical.not_not, z_10, z_iT, z_iF]
            · skip
              by_cases c7 : f < 0
              · refine z_R3_no z_code4 h_I_ref ?_ ?_ (J_cmd_no h_I_ref J z_code4)
                · show z_cI 2 93 _ _ = _
                  rw [E93]
                  simp only [M122 z_code4, z_bs, o_6, M123, M124, g_6_2, g_16_1, J.2.1, y_lt8 h8', z_ii, c1, Int32.not_lt.mp c1, c2, Int32.not_le.mp c2, c3, Int32.not_lt.mp c3, c4, Int32.not_le.mp c4, c5, Int32.not_lt.mp c5, c6, Int32.not_lt.mp c6, c7, Int32.not_le.mpr c7, true_or, or_true, or_self, false_or, or_false, not_true, not_false_eq_true, Classical.not_not, z_10, z_iT, z_iF]
                · show z_cI 2 161 _ _ = _
                  rw [E161]
                  simp only [M131 z_code4, z_bs, o_52, M132, z_le78, z_lt19, g_52_12, show (z_no 7 S (-4)) 52 12 = nI cs.length from J.2.2.1, y_eq8 h8', c1, Int32.not_lt.mp c1, c2, Int32.not_le.mp c2, c3, Int32.not_lt.mp c3, c4, Int32.not_le.mp c4, c5, Int32.not_lt.mp c5, c6, Int32.not_lt.mp c6, c7, Int32.not_le.mpr c7, true_or, or_true, or_self, false_or, or_false, not_true, not_false_eq_true, Classical.not_not, z_10, z_iT, z_iF]
              · skip
                by_cases c8 : u < f
                · refine z_R3_no z_code4 h_I_ref ?_ ?_ (J_cmd_no h_I_ref J z_code4)
                  · show z_cI 2 93 _ _ = _
                    rw [E93]
                    simp only [M122 z_code4, z_bs, o_6, M123, M124, g_6_2, g_16_1, J.2.1, y_lt8 h8', z_ii, c1, Int32.not_lt.mp c1, c2, Int32.not_le.mp c2, c3, Int32.not_lt.mp c3, c4, Int32.not_le.mp c4, c5, Int32.not_lt.mp c5, c6, Int32.not_lt.mp c6, c7, Int32.not_lt.mp c7, c8, Int32.not_le.mpr c8, true_or, or_true, or_self, false_or, or_false, not_true, not_false_eq_true, Classical.not_not, z_10, z_iT, z_iF]
                  · show z_cI 2 161 _ _ = _
                    rw [E161]
                    simp only [M131 z_code4, z_bs, o_52, M132, z_le78, z_lt19, g_52_12, show (z_no 7 S (-4)) 52 12 = nI cs.length from J.2.2.1, y_eq8 h8', c1, Int32.not_lt.mp c1, c2, Int32.not_le.mp c2, c3, Int32.not_lt.mp c3, c4, Int32.not_le.mp c4, c5, Int32.not_lt.mp c5, c6, Int32.not_lt.mp c6, c7, Int32.not_lt.mp c7, c8, Int32.not_le.mpr c8, true_or, or_true, or_self, false_or, or_false, not_true, not_false_eq_true, Classical.not_not, z_10, z_iT, z_iF]
                · skip
                  have hu : ¬ u < 0 := fun q => by have q1 := z_lt.mp q; have q2 := z_le.mp (Int32.not_lt.mp c8); have q3 := z_le.mp (Int32.not_lt.mp c7); have e0 : (0 : Int32).toInt = 0 := rfl; omega
                  by_cases c9 : 2 < w
                  · refine z_R3_no z_code6 h_I_ref ?_ ?_ (J_cmd_no h_I_ref J z_code6)
                    · show z_cI 2 93 _ _ = _
                      rw [E93]
                      simp only [M122 z_code6, z_bs, o_6, M123, M124, g_6_2, g_16_1, J.2.1, y_lt8 h8', z_ii, c1, Int32.not_lt.mp c1, c2, Int32.not_le.mp c2, c3, Int32.not_lt.mp c3, c4, Int32.not_le.mp c4, c5, Int32.not_lt.mp c5, c6, Int32.not_lt.mp c6, c7, Int32.not_lt.mp c7, c8, Int32.not_lt.mp c8, hu, c9, Int32.not_le.mpr c9, true_or, or_true, or_self, false_or, or_false, not_true, not_false_eq_true, Classical.not_not, z_10, z_iT, z_iF]
                    · show z_cI 2 161 _ _ = _
                      rw [E161]
                      simp only [M131 z_code6, z_bs, o_52, M132, z_le78, z_lt19, g_52_12, show (z_no 7 S (-6)) 52 12 = nI cs.length from J.2.2.1, y_eq8 h8', c1, Int32.not_lt.mp c1, c2, Int32.not_le.mp c2, c3, Int32.not_lt.mp c3, c4, Int32.not_le.mp c4, c5, Int32.not_lt.mp c5, c6, Int32.not_lt.mp c6, c7, Int32.not_lt.mp c7, c8, Int32.not_lt.mp c8, hu, c9, Int32.not_le.mpr c9, true_or, or_true, or_self, false_or, or_false, not_true, not_false_eq_true, Classical.not_not, z_10, z_iT, z_iF]
                  · skip
                    by_cases c10 : 20 ≤ r
                    · refine z_R3_no z_code6 h_I_ref ?_ ?_ (J_cmd_no h_I_ref J z_code6)
                      · show z_cI 2 93 _ _ = _
                        rw [E93]
                        simp only [M122 z_code6, z_bs, o_6, M123, M124, g_6_2, g_16_1, J.2.1, y_lt8 h8', z_ii, c1, Int32.not_lt.mp c1, c2, Int32.not_le.mp c2, c3, Int32.not_lt.mp c3, c4, Int32.not_le.mp c4, c5, Int32.not_lt.mp c5, c6, Int32.not_lt.mp c6, c7, Int32.not_lt.mp c7, c8, Int32.not_lt.mp c8, hu, c9, Int32.not_lt.mp c9, c10, Int32.not_lt.mpr c10, true_or, or_true, or_self, false_or, or_false, not_true, not_false_eq_true, Classical.not_not, z_10, z_iT, z_iF]
                      · show z_cI 2 161 _ _ = _
                        rw [E161]
                        simp only [M131 z_code6, z_bs, o_52, M132, z_le78, z_lt19, g_52_12, show (z_no 7 S (-6)) 52 12 = nI cs.length from J.2.2.1, y_eq8 h8', c1, Int32.not_lt.mp c1, c2, Int32.not_le.mp c2, c3, Int32.not_lt.mp c3, c4, Int32.not_le.mp c4, c5, Int32.not_lt.mp c5, c6, Int32.not_lt.mp c6, c7, Int32.not_lt.mp c7, c8, Int32.not_lt.mp c8, hu, c9, Int32.not_lt.mp c9, c10, Int32.not_lt.mpr c10, true_or, or_true, or_self, false_or, or_false, not_true, not_false_eq_true, Classical.not_not, z_10, z_iT, z_iF]
                    · skip
                      by_cases c11 : 600 < f
                      · refine z_R3_no z_code6 h_I_ref ?_ ?_ (J_cmd_no h_I_ref J z_code6)
                        · show z_cI 2 93 _ _ = _
                          rw [E93]
                          simp only [M122 z_code6, z_bs, o_6, M123, M124, g_6_2, g_16_1, J.2.1, y_lt8 h8', z_ii, c1, Int32.not_lt.mp c1, c2, Int32.not_le.mp c2, c3, Int32.not_lt.mp c3, c4, Int32.not_le.mp c4, c5, Int32.not_lt.mp c5, c6, Int32.not_lt.mp c6, c7, Int32.not_lt.mp c7, c8, Int32.not_lt.mp c8, hu, c9, Int32.not_lt.mp c9, c10, Int32.not_le.mp c10, c11, Int32.not_le.mpr c11, true_or, or_true, or_self, false_or, or_false, not_true, not_false_eq_true, Classical.not_not, z_10, z_iT, z_iF]
                        · show z_cI 2 161 _ _ = _
                          rw [E161]
                          simp only [M131 z_code6, z_bs, o_52, M132, z_le78, z_lt19, g_52_12, show (z_no 7 S (-6)) 52 12 = nI cs.length from J.2.2.1, y_eq8 h8', c1, Int32.not_lt.mp c1, c2, Int32.not_le.mp c2, c3, Int32.not_lt.mp c3, c4, Int32.not_le.mp c4, c5, Int32.not_lt.mp c5, c6, Int32.not_lt.mp c6, c7, Int32.not_lt.mp c7, c8, Int32.not_lt.mp c8, hu, c9, Int32.not_lt.mp c9, c10, Int32.not_le.mp c10, c11, Int32.not_le.mpr c11, true_or, or_true, or_self, false_or, or_false, not_true, not_false_eq_true, Classical.not_not, z_10, z_iT, z_iF]
                      · skip
                        by_cases c12 : 600 < u
                        · refine z_R3_no z_code6 h_I_ref ?_ ?_ (J_cmd_no h_I_ref J z_code6)
                          · show z_cI 2 93 _ _ = _
                            rw [E93]
                            simp only [M122 z_code6, z_bs, o_6, M123, M124, g_6_2, g_16_1, J.2.1, y_lt8 h8', z_ii, c1, Int32.not_lt.mp c1, c2, Int32.not_le.mp c2, c3, Int32.not_lt.mp c3, c4, Int32.not_le.mp c4, c5, Int32.not_lt.mp c5, c6, Int32.not_lt.mp c6, c7, Int32.not_lt.mp c7, c8, Int32.not_lt.mp c8, hu, c9, Int32.not_lt.mp c9, c10, Int32.not_le.mp c10, c11, Int32.not_lt.mp c11, c12, Int32.not_le.mpr c12, true_or, or_true, or_self, false_or, or_false, not_true, not_false_eq_true, Classical.not_not, z_10, z_iT, z_iF]
                          · show z_cI 2 161 _ _ = _
                            rw [E161]
                            simp only [M131 z_code6, z_bs, o_52, M132, z_le78, z_lt19, g_52_12, show (z_no 7 S (-6)) 52 12 = nI cs.length from J.2.2.1, y_eq8 h8', c1, Int32.not_lt.mp c1, c2, Int32.not_le.mp c2, c3, Int32.not_lt.mp c3, c4, Int32.not_le.mp c4, c5, Int32.not_lt.mp c5, c6, Int32.not_lt.mp c6, c7, Int32.not_lt.mp c7, c8, Int32.not_lt.mp c8, hu, c9, Int32.not_lt.mp c9, c10, Int32.not_le.mp c10, c11, Int32.not_lt.mp c11, c12, Int32.not_le.mpr c12, true_or, or_true, or_self, false_or, or_false, not_true, not_false_eq_true, Classical.not_not, z_10, z_iT, z_iF]
                        · skip
                          by_cases c13 : 8 ≤ cs.length
                          · refine z_R3_no z_code6 h_I_ref ?_ ?_ (J_cmd_no h_I_ref J z_code6)
                            · show z_cI 2 93 _ _ = _
                              rw [E93]
                              simp only [M122 z_code6, z_bs, o_6, M123, M124, g_6_2, g_16_1, J.2.1, y_lt8 h8', z_ii, c1, Int32.not_lt.mp c1, c2, Int32.not_le.mp c2, c3, Int32.not_lt.mp c3, c4, Int32.not_le.mp c4, c5, Int32.not_lt.mp c5, c6, Int32.not_lt.mp c6, c7, Int32.not_lt.mp c7, c8, Int32.not_lt.mp c8, hu, c9, Int32.not_lt.mp c9, c10, Int32.not_le.mp c10, c11, Int32.not_lt.mp c11, c12, Int32.not_lt.mp c12, c13, true_or, or_true, or_self, false_or, or_false, not_true, not_false_eq_true, Classical.not_not, z_10, z_iT, z_iF]
                            · show z_cI 2 161 _ _ = _
                              rw [E161]
                              simp only [M131 z_code6, z_bs, o_52, M132, z_le78, z_lt19, g_52_12, show (z_no 7 S (-6)) 52 12 = nI cs.length from J.2.2.1, y_eq8 h8', c1, Int32.not_lt.mp c1, c2, Int32.not_le.mp c2, c3, Int32.not_lt.mp c3, c4, Int32.not_le.mp c4, c5, Int32.not_lt.mp c5, c6, Int32.not_lt.mp c6, c7, Int32.not_lt.mp c7, c8, Int32.not_lt.mp c8, hu, c9, Int32.not_lt.mp c9, c10, Int32.not_le.mp c10, c11, Int32.not_lt.mp c11, c12, Int32.not_lt.mp c12, c13, true_or, or_true, or_self, false_or, or_false, not_true, not_false_eq_true, Classical.not_not, z_10, z_iT, z_iF]
                          · skip
                            obtain ⟨cc, hcc, rfl⟩ := z_plc (n := 400) (by omega) c1 c2
                            obtain ⟨dd, hdd, rfl⟩ := z_plc (n := 8) (by omega) c3 c4
                            obtain ⟨ww, hww, rfl⟩ := nI_of2 (n := 2) rfl c5 (Int32.not_lt.mp c9)
                            obtain ⟨rr, hrr, rfl⟩ := z_plc (n := 20) (by omega) (fun q => c6 (z_lt.mpr (by have := z_lt.mp q; have e0 : (0 : Int32).toInt = 0 := rfl; have e1 : (1 : Int32).toInt = 1 := rfl; omega))) c10
                            obtain ⟨ff, hff, rfl⟩ := nI_of2 (n := 600) rfl c7 (Int32.not_lt.mp c11)
                            obtain ⟨uu, huu, rfl⟩ := nI_of2 (n := 600) rfl hu (Int32.not_lt.mp c12)
                            have hr1 : 1 ≤ rr := by
                              have := z_le.mp (Int32.not_lt.mp c6)
                              rw [z_nI (by omega)] at this
                              have e1 : (1 : Int32).toInt = 1 := rfl
                              omega
                            have hfu : ff ≤ uu := by
                              have := z_le.mp (Int32.not_lt.mp c8)
                              rw [z_nI (by omega), z_nI (by omega)] at this
                              omega
                            have J16 : S 16 1 = nI cs.length := J.2.1
                            have J52 : S 52 12 = nI cs.length := J.2.2.1
                            have hlen : cs.length < 8 := by omega
                            generalize hn : cs.length = n at *
                            obtain ⟨D', hD'⟩ : ∃ D', D' = z_sa Dh nx (.inr (.inr (0, [0, 0, 0, 0, 0, 0]))) := ⟨_, rfl⟩
                            obtain ⟨R0, hR0⟩ : ∃ R0, R0 = z_sa R nx (fun _ => (none : Option Nat)) := ⟨_, rfl⟩
                            have t0 : z_shp L D' nx = .inr (.inr (0, [0, 0, 0, 0, 0, 0])) := by rw [hD']; exact z_shp_sa_s h87
                            obtain ⟨S0, hS0⟩ : ∃ S0, S0 = z_ups (z_ups (z_ups (z_ups (z_ups (z_ups (z_sa S nx (fun _ => (0 : Int32))) nx 0 (nI cc)) nx 1 (nI dd)) nx 2 (nI ww)) nx 3 (nI rr)) nx 4 (nI ff)) nx 5 (nI uu) := ⟨_, rfl⟩
                            have s0 : ∀ b, b ≠ nx → S0 b = S b := fun b hb => by rw [hS0, z_ups_ne hb, z_ups_ne hb, z_ups_ne hb, z_ups_ne hb, z_ups_ne hb, z_ups_ne hb, z_sa_ne hb]
                            have e1 : z_cV 1 0 [.inr (.inr (some nx)), .inl (nI cc), .inl (nI dd), .inl (nI ww), .inl (nI rr), .inl (nI ff), .inl (nI uu)] (z_new 0 (z_mk L Dh S R nx sl)) = some (z_mk L D' S0 R0 (nx + 1) (sl + 6)) := by
                              rw [m_new (ci := 0) (n := 6) (ks := [0, 0, 0, 0, 0, 0]) h87 rfl rfl rfl, E0, ← hD', ← hR0, hS0]
                              simp only [z_nulS (show 6 ≤ nx by omega), z_bs, if_true]
                              rw [m_pI t0 rfl (by decide) (Or.inl rfl)]
                              simp only [z_bs]
                              rw [m_pI t0 rfl (by decide) (Or.inl rfl)]
                              simp only [z_bs]
                              rw [m_pI t0 rfl (by decide) (Or.inl rfl)]
                              simp only [z_bs]
                              rw [m_pI t0 rfl (by decide) (Or.inl rfl)]
                              simp only [z_bs]
                              rw [m_pI t0 rfl (by decide) (Or.inl rfl)]
                              simp only [z_bs]
                              rw [m_pI t0 rfl (by decide) (Or.inl rfl)]
                              simp only [z_bs]
                            have i1 : z_in (nI n) 8 = true := z_in_nI hlen (by decide)
                            have i2 : (nI n).toNatClampNeg = n := z_cl (by omega)
                            have x1 : nI (n + 1) - 1 = nI n := (z_nI_sub (a := n + 1) (b := 1) (by omega))
                            obtain ⟨S1, hS1⟩ : ∃ S1, S1 = z_ups S0 16 1 (nI (n + 1)) := ⟨_, rfl⟩
                            have s1 : ∀ b, b ≠ nx → b ≠ 16 → S1 b = S b := fun b hb h16 => by rw [hS1, z_ups_ne h16, s0 b hb]
                            have s016 : S0 16 1 = nI n := by rw [s0 16 (by omega)]; exact J16
                            have e4 : z_cI 1 13 [.inr (.inr (some 16)), .inr (.inr (some nx))] (z_mk L D' S0 R0 (nx + 1) (sl + 6)) = some (nI n, z_mk L D' S1 (z_upR R0 17 n (some nx)) (nx + 1) (sl + 6)) := by
                              rw [E13]
                              simp only [g_16_0, g_16_1, z_bs, s016]
                              rw [m_stR (a := 17) (b := nx) (t := 4) (n := 8) (cj := 0) rfl (Or.inr (Or.inl rfl)) t0 rfl i1, i2, hS1]
                              simp only [z_bs, g_16_1, s016, p_16_1, nI_1, z_upsS, x1]
                            have m12 : S1 52 12 = nI n := by rw [s1 52 (by omega) (by decide)]; exact J52
                            obtain ⟨F, hF⟩ : ∃ F, F = z_ups (z_ups (z_ups (z_ups (z_ups (z_ups (z_ups (S1) 63 (n * 6 + 0) (nI cc)) 63 (n * 6 + 1) (nI dd)) 63 (n * 6 + 2) (nI ww)) 63 (n * 6 + 3) (nI rr)) 63 (n * 6 + 4) (nI ff)) 63 (n * 6 + 5) (nI uu)) 52 12 (nI (n + 1)) := ⟨_, rfl⟩
                            have fin : ∀ b, b ≠ 63 → b ≠ 52 → F b = S1 b := fun b q1 q2 => by rw [hF, z_ups_ne q2, z_ups_ne q1, z_ups_ne q1, z_ups_ne q1, z_ups_ne q1, z_ups_ne q1, z_ups_ne q1]
                            have f12 : F 52 12 = nI (n + 1) := by rw [hF, z_upsS]
                            have f52 : ∀ q, q ≠ 12 → F 52 q = S 52 q := fun q hq => by rw [hF, z_upsK hq, z_ups_ne (by decide), z_ups_ne (by decide), z_ups_ne (by decide), z_ups_ne (by decide), z_ups_ne (by decide), z_ups_ne (by decide), s1 52 (by omega) (by decide)]
                            have f16 : ∀ q, F 16 q = if q = 1 then nI (n + 1) else S 16 q := fun q => by rw [fin 16 (by decide) (by decide), hS1, z_upsE, if_pos rfl, s0 16 (by omega)]
                            have f63 : ∀ q, F 63 q = if q = n * 6 + 5 then nI uu else if q = n * 6 + 4 then nI ff else if q = n * 6 + 3 then nI rr else if q = n * 6 + 2 then nI ww else if q = n * 6 + 1 then nI dd else if q = n * 6 + 0 then nI cc else S 63 q := fun q => by rw [hF, z_ups_ne (by decide), z_upsE, if_pos rfl, z_upsE, if_pos rfl, z_upsE, if_pos rfl, z_upsE, if_pos rfl, z_upsE, if_pos rfl, z_upsE, if_pos rfl, s1 63 (by omega) (by decide)]
                            have fr : ∀ b, b ≠ 63 → b ≠ 52 → b ≠ 16 → b ≠ nx → F b = S b := fun b q1 q2 q3 q4 => by rw [fin b q1 q2, s1 b q4 q3]
                            refine ⟨nI n, D', S1, F, z_upR R0 17 n (some nx), nx + 1, sl + 6, ?_, ?_, ?_, ⟨cs ++ [(cc, dd, ww, rr, ff, uu)], fun i => if i = n then nx else ca i, ⟨?_, ?_, ?_, ?_⟩⟩, fun b hb h16 h52 hm => ?_, fun q hq => by rw [f16, if_neg hq], f52, fun b hb hb2 => ⟨by rw [hD', z_sa_ne (by omega)], fr b (by omega) (by omega) (by omega) (by omega), by rw [z_upR_ne (by omega), hR0, z_sa_ne (by omega)]⟩, fun b hb h17 => by rw [z_upR_ne h17, hR0, z_sa_ne (by omega)], by omega, by omega, by omega⟩
                            · show z_cI 2 93 _ _ = _
                              rw [E93]
                              simp only [o_6, M123, M124, g_6_2, g_16_1, J16, y_lt8 h8', z_ii, z_bs, c1, Int32.not_lt.mp c1, c2, Int32.not_le.mp c2, c3, Int32.not_lt.mp c3, c4, Int32.not_le.mp c4, c5, Int32.not_lt.mp c5, c6, Int32.not_lt.mp c6, c7, Int32.not_lt.mp c7, c8, Int32.not_lt.mp c8, hu, c9, Int32.not_lt.mp c9, c10, Int32.not_le.mp c10, c11, Int32.not_lt.mp c11, c12, Int32.not_lt.mp c12, c13, true_or, or_true, or_self, false_or, or_false, not_true, not_false_eq_true, Classical.not_not, z_10, z_iT, z_iF, z_mk1, z_nulS (show 6 ≤ nx by omega), z_fe0, e1, e4, m_ob (show z_shp L D' 16 = .inr (.inr (2, [27, 0, 0, 0])) from rfl)]
                            · show z_cI 2 161 _ _ = _
                              rw [E161, hF]
                              simp only [o_52, M132, z_le78, z_lt19, g_52_12, m12, y_eq8 h8', z_bs, c1, Int32.not_lt.mp c1, c2, Int32.not_le.mp c2, c3, Int32.not_lt.mp c3, c4, Int32.not_le.mp c4, c5, Int32.not_lt.mp c5, c6, Int32.not_lt.mp c6, c7, Int32.not_lt.mp c7, c8, Int32.not_lt.mp c8, hu, c9, Int32.not_lt.mp c9, c10, Int32.not_le.mp c10, c11, Int32.not_lt.mp c11, c12, Int32.not_lt.mp c12, c13, true_or, or_true, or_self, false_or, or_false, not_true, not_false_eq_true, Classical.not_not, z_10, z_iT, z_iF, g_52_13, k_s0 hlen, k_s1 hlen, k_s2 hlen, k_s3 hlen, k_s4 hlen, k_s5 hlen, z_ups_ne (show (52 : Nat) ≠ 63 by decide), p_52_12, nI_1, z_upsS, x1]
                            · exact I_ref_fr h_I_ref ⟨fr 7 (by decide) (by decide) (by decide) (by omega), fr 86 (by decide) (by decide) (by decide) (by omega)⟩
                            · rw [List.length_append, hn]; exact hlen
                            · rw [f16, if_pos rfl, List.length_append, hn]; rfl
                            · rw [f12, List.length_append, hn]; rfl
                            · intro i hi
                              have hi2 : i < n + 1 := by rw [List.length_append, hn] at hi; exact hi
                              by_cases q : i = n
                              · have hg : (cs ++ [(cc, dd, ww, rr, ff, uu)])[i] = (cc, dd, ww, rr, ff, uu) := by
                                  rw [List.getElem_append_right (by omega)]
                                  simp
                                rw [hg]
                                simp only [if_pos q]
                                refine ⟨by rw [q]; simp [z_upR, z_upr], by omega, ⟨hcc, hdd, hww, hr1, show rr ≤ 19 by omega, hfu, huu⟩, ⟨h87, by rw [hD', z_sa_s], ?_, ?_, ?_, ?_, ?_, ?_⟩, ?_⟩
                                · rw [fin nx (by omega) (by omega), hS1, z_ups_ne (by omega), hS0, z_upsK (by decide), z_upsK (by decide), z_upsK (by decide), z_upsK (by decide), z_upsK (by decide), z_upsS]
                                · rw [fin nx (by omega) (by omega), hS1, z_ups_ne (by omega), hS0, z_upsK (by decide), z_upsK (by decide), z_upsK (by decide), z_upsK (by decide), z_upsS]
                                · rw [fin nx (by omega) (by omega), hS1, z_ups_ne (by omega), hS0, z_upsK (by decide), z_upsK (by decide), z_upsK (by decide), z_upsS]
                                · rw [fin nx (by omega) (by omega), hS1, z_ups_ne (by omega), hS0, z_upsK (by decide), z_upsK (by decide), z_upsS]
                                · rw [fin nx (by omega) (by omega), hS1, z_ups_ne (by omega), hS0, z_upsK (by decide), z_upsS]
                                · rw [fin nx (by omega) (by omega), hS1, z_ups_ne (by omega), hS0, z_upsS]
                                · subst q
                                  refine ⟨?_, ?_, ?_, ?_, ?_, ?_⟩
                                  · rw [f63, if_neg (by omega), if_neg (by omega), if_neg (by omega), if_neg (by omega), if_neg (by omega), if_pos rfl]
                                  · rw [f63, if_neg (by omega), if_neg (by omega), if_neg (by omega), if_neg (by omega), if_pos rfl]
                                  · rw [f63, if_neg (by omega), if_neg (by omega), if_neg (by omega), if_pos rfl]
                                  · rw [f63, if_neg (by omega), if_neg (by omega), if_pos rfl]
                                  · rw [f63, if_neg (by omega), if_pos rfl]
                                  · rw [f63, if_pos rfl]
                              · have hi3 : i < cs.length := by omega
                                rw [List.getElem_append_left hi3]
                                simp only [if_neg q]
                                obtain ⟨k1, k2, k3, k4, k5⟩ := J.2.2.2 i (by omega)
                                refine ⟨?_, by omega, k3, y_Kb_fr k4 (by rw [hD', z_sa_ne (by omega)]) (fr _ (by have := k4.1; omega) (by have := k4.1; omega) (by have := k4.1; omega) (by omega)), ?_⟩
                                · have : z_upR R0 17 n (some nx) 17 i = R0 17 i := by unfold z_upR z_upr; rw [if_pos rfl, if_neg q]
                                  rw [this, hR0, z_sa_ne (by omega)]
                                  exact k1
                                · unfold y_Km
                                  rw [f63, f63, f63, f63, f63, f63]
                                  repeat rw [if_neg (by omega)]
                                  exact k5
                            · have hm := of_decide_eq_false hm
                              exact fr b (fun q => hm (by rw [q]; decide)) h52 h16 (by omega)
end ZSS
