section ZSI
variable {L : Nat} {Dh : Nat → z_Sh} {S : Nat → Nat → Int32} {R : Nat → Nat → Option Nat} {nx sl : Nat}
variable {ms : List y_Mv} {ad : Nat → Nat}
theorem M26 {a e d n : Nat} (hO : y_Ob Dh R a) (hD : I_dir S) (h6 : S a 6 = nI e) (he : e < 400) (hd : d < 8) (hn : n < 20) : z_cI 1 26 [.inr (.inr (some a)), .inl (nI d), .inl (nI n)] (z_mk L Dh S R nx sl) = some (if y_onb e d n = true then 1 else 0, z_mk L Dh S R nx sl) := by
  have h1 : z_in (nI d) 8 = true := z_in_nI hd (by decide)
  have h2 : (nI d).toNatClampNeg = d := z_cl (by omega)
  rw [E26]
  simp only [y_g6 hO, z_bs, l_1 h1, l_2 h1, h2, (hD d hd).1, (hD d hd).2, h6]
  rw [(z_cd e he).2, (z_cd e he).1, Int32.mul_comm (nI n) (y_sx d), Int32.mul_comm (nI n) (y_sy d)]
  have ex := y_lin (y_sx d) (y_smem d hd).1 (e % 20) (by omega) n hn
  have ey := y_lin (y_sy d) (y_smem d hd).2 (e / 20) (by omega) n hn
  rw [(y_sxI d hd).1] at ex
  rw [(y_sxI d hd).2] at ey
  have e0 : (0 : Int32).toInt = 0 := rfl
  have e20 : (20 : Int32).toInt = 20 := rfl
  generalize nI (e % 20) + y_sx d * nI n = X at ex ⊢
  generalize nI (e / 20) + y_sy d * nI n = Y at ey ⊢
  by_cases c1 : X < 0
  · rw [if_pos c1, if_neg (fun q => by have q := y_on_iff.mp q; have := z_lt.mp c1; have := q.1; omega)]
  · rw [if_neg c1]
    by_cases c2 : 20 ≤ X
    · rw [if_pos c2, if_neg (fun q => by have q := y_on_iff.mp q; have := z_le.mp c2; have := q.2.1; omega)]
    · rw [if_neg c2]
      by_cases c3 : Y < 0
      · rw [if_pos c3, if_neg (fun q => by have q := y_on_iff.mp q; have := z_lt.mp c3; have := q.2.2.1; omega)]
      · rw [if_neg c3]
        by_cases c4 : 20 ≤ Y
        · rw [if_pos c4, if_neg (fun q => by have q := y_on_iff.mp q; have := z_le.mp c4; have := q.2.2.2; omega)]
        · rw [if_neg c4, if_pos]
          have a1 := z_le.mp (Int32.not_lt.mp c1)
          have a2 := z_lt.mp (Int32.not_le.mp c2)
          have a3 := z_le.mp (Int32.not_lt.mp c3)
          have a4 := z_lt.mp (Int32.not_le.mp c4)
          exact y_on_iff.mpr ⟨by omega, by omega, by omega, by omega⟩
/-- one leg more: the class's mover -/
theorem M27 {a : Nat} {m : y_Mv} (hD : I_dir S) (C : y_cM Dh R S a m) (hm : y_mok m) {g : y_Lg} (hg : y_gok (y_en m) g) (hl : m.2.2.2.2.2.length < 10) : ∃ S', z_cI 4 27 [.inr (.inr (some a)), .inl (nI g.1), .inl (nI g.2.1), .inl (nI g.2.2.1), .inl (nI g.2.2.2)] (z_mk L Dh S R nx sl) = some (nI (m.2.2.2.2.2.length + 1), z_mk L Dh S' R nx sl) ∧ y_cM Dh R S' a (m.1, m.2.1, m.2.2.1, m.2.2.2.1, m.2.2.2.2.1, m.2.2.2.2.2 ++ [g]) ∧ ∀ b, b < a ∨ a + 6 ≤ b → S' b = S b := by
  obtain ⟨c1, c2, c3, c4, c5, c6, c7, c8, c9, c10, c11⟩ := C
  obtain ⟨m1, m2, m3, m4, m5, m6, m7⟩ := hm
  have h87 := c1.1
  generalize hlen : m.2.2.2.2.2.length = n at hl m6 ⊢
  have hlen5 : S a 5 = nI n := by rw [← hlen]; exact c7.2.1
  have hen : y_en m < 400 := y_end_lt _ m3 m7
  obtain ⟨g0, g1, g2, g3, g4, g5, g6⟩ := id hg
  let T := z_ups (z_ups (z_ups (z_ups (z_ups (z_ups S (a + 1) n (nI g.1)) (a + 2) n (nI g.2.1)) (a + 3) n (nI g.2.2.1)) (a + 4) n (nI g.2.2.2)) a 5 (nI (n + 1))) a 6 (nI (y_al (y_en m) g.1 g.2.1))
  have tb : ∀ b, b < a ∨ a + 5 ≤ b → T b = S b := fun b hb => by
    show z_ups _ a 6 _ b = _
    rw [z_ups_ne (by omega), z_ups_ne (by omega), z_ups_ne (by omega), z_ups_ne (by omega), z_ups_ne (by omega), z_ups_ne (by omega)]
  have ta : ∀ k, k ≠ 5 → k ≠ 6 → T a k = S a k := fun k q1 q2 => by
    show z_ups _ a 6 _ a k = _
    rw [z_upsE, if_pos rfl, if_neg q2, z_upsE, if_pos rfl, if_neg q1, z_ups_ne (by omega), z_ups_ne (by omega), z_ups_ne (by omega), z_ups_ne (by omega)]
  have t1 : ∀ k, T (a + 1) k = if k = n then nI g.1 else S (a + 1) k := fun k => by
    show z_ups _ a 6 _ (a + 1) k = _
    rw [z_ups_ne (by omega), z_ups_ne (by omega), z_ups_ne (by omega), z_ups_ne (by omega), z_ups_ne (by omega), z_upsE, if_pos rfl]
  have t2 : ∀ k, T (a + 2) k = if k = n then nI g.2.1 else S (a + 2) k := fun k => by
    show z_ups _ a 6 _ (a + 2) k = _
    rw [z_ups_ne (by omega), z_ups_ne (by omega), z_ups_ne (by omega), z_ups_ne (by omega), z_upsE, if_pos rfl, z_ups_ne (by omega)]
  have t3 : ∀ k, T (a + 3) k = if k = n then nI g.2.2.1 else S (a + 3) k := fun k => by
    show z_ups _ a 6 _ (a + 3) k = _
    rw [z_ups_ne (by omega), z_ups_ne (by omega), z_ups_ne (by omega), z_upsE, if_pos rfl, z_ups_ne (by omega), z_ups_ne (by omega)]
  have t4 : ∀ k, T (a + 4) k = if k = n then nI g.2.2.2 else S (a + 4) k := fun k => by
    show z_ups _ a 6 _ (a + 4) k = _
    rw [z_ups_ne (by omega), z_ups_ne (by omega), z_upsE, if_pos rfl, z_ups_ne (by omega), z_ups_ne (by omega), z_ups_ne (by omega)]
  have t5 : T a 5 = nI (n + 1) := by
    show z_ups _ a 6 _ a 5 = _
    rw [z_upsE, if_pos rfl, if_neg (by decide), z_upsE, if_pos rfl, if_pos rfl]
  have t6 : T a 6 = nI (y_al (y_en m) g.1 g.2.1) := by
    show z_ups _ a 6 _ a 6 = _
    rw [z_upsE, if_pos rfl, if_pos rfl]
  have hlgT : y_lgC a T (m.2.2.2.2.2 ++ [g]) := by
    refine ⟨by rw [List.length_append, hlen]; simp; omega, by rw [t5, List.length_append, hlen]; rfl, fun k hk => ?_⟩
    rw [t1, t2, t3, t4]
    by_cases q : k = n
    · subst q
      rw [if_pos rfl, if_pos rfl, if_pos rfl, if_pos rfl]
      have : (m.2.2.2.2.2 ++ [g])[k] = g := by
        rw [List.getElem_append_right (by omega)]
        simp
      rw [this]
      exact ⟨rfl, rfl, rfl, rfl⟩
    · have hk2 : k < m.2.2.2.2.2.length := by rw [List.length_append] at hk; simp at hk; omega
      rw [if_neg q, if_neg q, if_neg q, if_neg q, List.getElem_append_left hk2]
      exact c7.2.2 k hk2
  have hDT : I_dir T := I_dir_fr hD ⟨tb 1 (by omega), tb 2 (by omega)⟩
  have hokT : y_okl m.2.2.1 (m.2.2.2.2.2 ++ [g]) := y_okl_snoc _ m7 hg
  obtain ⟨S', F', e1, e2, e3, e4, e5, e6, e7⟩ := M31 (L := L) (nx := nx) (sl := sl) (S := T) c1 (c := m.2.2.1) (τ := m.2.2.2.1) hDT hlgT m3 hokT m4 ((ta 2 (by decide) (by decide)).trans c4) ((ta 3 (by decide) (by decide)).trans c5) (fun q => by simp at q)
  have ha : ∀ k, k ≠ 5 → k ≠ 6 → k ≠ 7 → S' a k = S a k := fun k q1 q2 q3 => (e2.2 k q3).trans (ta k q1 q2)
  refine ⟨S', ?_, ⟨c1, (ha 0 (by decide) (by decide) (by decide)).trans c2, (ha 1 (by decide) (by decide) (by decide)).trans c3, (ha 2 (by decide) (by decide) (by decide)).trans c4, (ha 3 (by decide) (by decide) (by decide)).trans c5, (ha 4 (by decide) (by decide) (by decide)).trans c6, y_lgC_wf hlgT e2, ?_, e4, fun q => by simp at q, F', e3, e6, e5⟩, fun b hb => by rw [e2.1 b (by omega) (by omega), tb b (by omega)]⟩
  · rw [E27]
    have x1 : z_ups S (a + 1) n (nI g.1) a 5 = nI n := by rw [z_ups_ne (by omega)]; exact hlen5
    have x2 : z_ups (z_ups S (a + 1) n (nI g.1)) (a + 2) n (nI g.2.1) a 5 = nI n := by rw [z_ups_ne (by omega)]; exact x1
    have x3 : z_ups (z_ups (z_ups S (a + 1) n (nI g.1)) (a + 2) n (nI g.2.1)) (a + 3) n (nI g.2.2.1) a 5 = nI n := by rw [z_ups_ne (by omega)]; exact x2
    have x4 : z_ups (z_ups (z_ups (z_ups S (a + 1) n (nI g.1)) (a + 2) n (nI g.2.1)) (a + 3) n (nI g.2.2.1)) (a + 4) n (nI g.2.2.2) a 5 = nI n := by rw [z_ups_ne (by omega)]; exact x3
    have x5 : z_ups (z_ups (z_ups (z_ups (z_ups S (a + 1) n (nI g.1)) (a + 2) n (nI g.2.1)) (a + 3) n (nI g.2.2.1)) (a + 4) n (nI g.2.2.2)) a 5 (nI (n + 1)) a 6 = nI (y_en m) := by
      rw [z_upsE, if_pos rfl, if_neg (by decide), z_ups_ne (by omega), z_ups_ne (by omega), z_ups_ne (by omega), z_ups_ne (by omega)]
      exact c8
    have hD5 : I_dir (z_ups (z_ups (z_ups (z_ups (z_ups S (a + 1) n (nI g.1)) (a + 2) n (nI g.2.1)) (a + 3) n (nI g.2.2.1)) (a + 4) n (nI g.2.2.2)) a 5 (nI (n + 1))) := I_dir_fr hD ⟨by rw [z_ups_ne (by omega), z_ups_ne (by omega), z_ups_ne (by omega), z_ups_ne (by omega), z_ups_ne (by omega)], by rw [z_ups_ne (by omega), z_ups_ne (by omega), z_ups_ne (by omega), z_ups_ne (by omega), z_ups_ne (by omega)]⟩
    simp only [y_g8 c1, y_g9 c1, y_g10 c1, y_g11 c1, y_g5 c1, y_g6 c1, y_p5 c1, y_p6 c1, y_ob c1, z_bs, hlen5, x1, x2, x3, x4, x5, y_s1 c1 hl, y_s2 c1 hl, y_s3 c1 hl, y_s4 c1 hl, nI_1, M33 hD5 g0, y_cs_all hen g0 (show g.2.1 < 20 by omega) g6]
    show (z_cV 3 31 [.inr (.inr (some a))] (z_mk L Dh T R nx sl)).bind _ = _
    rw [e1]
    simp only [z_bs, y_g5 c1, e2.2 5 (by decide), t5]
  · rw [e2.2 6 (by decide), t6]
    show _ = nI (y_end m.2.2.1 (m.2.2.2.2.2 ++ [g]))
    rw [y_end_snoc]
    rfl
/-- the cells of others -/
theorem y_oth {S' : Nat → Nat → Int32} {i : Nat} (J : J_mov ms ad Dh S R nx) (hi : i < ms.length) (hb : ∀ b, 87 ≤ b → b < ad i ∨ ad i + 6 ≤ b → S' b = S b) : ∀ b, 87 ≤ b → y_nm Dh b → S' b = S b := fun b h87 hn => by
  have := y_nm_ne (J.2.2.2.1 i hi).2.2.2.1.1 hn
  exact hb b h87 (by omega)

theorem S_cue (h_I_ref : I_ref S) (hD : I_dir S) (J : J_mov ms ad Dh S R nx) (H : J_hit ms S) {kk : Nat} (hkk : kk < 100000) (E : J_ed kk ms S) (x t l : Int32) : z_R2 (fun h => z_cI 5 85 [.inr (.inr (some 6)), .inl x, .inl t, .inl l] h) (fun h => z_cI 2 143 [.inr (.inr (some 52)), .inl x, .inl t, .inl l] h) L Dh S R nx sl A_mv K_mv (J_post kk ad Dh R nx S) := by
  have h12' := J.1
  by_cases d1 : x < 0 ∨ nI ms.length ≤ x
  · refine z_R2_no z_code1 rfl rfl h_I_ref ?_ ?_ (J_post_no h_I_ref J H E z_code1)
    · show z_cI 5 85 _ _ = _
      rw [E85]
      simp only [g_6_1, o_8, M43x J d1, z_bs, z_nulN, z_tt, z_iT, o_6, M122 z_code1]
    · show z_cI 2 143 _ _ = _
      rw [E143]
      simp only [o_52, z_bs, M133 (show z_no 7 S (-1) 52 2 = nI ms.length from J.2.2.1), d1, z_iT, z_e00, not_true, z_iF, M131 z_code1]
  · obtain ⟨i, hi, rfl⟩ := z_plc (by omega) (fun q => d1 (Or.inl q)) (fun q => d1 (Or.inr q))
    obtain ⟨k1, k2, k3, k4, k5⟩ := J.2.2.2.1 i hi
    have h12 : i < 12 := by omega
    have h87 := k4.1.1
    have i1 : z_in (nI i) 12 = true := z_in_nI h12 (by decide)
    have i2 : (nI i).toNatClampNeg = i := z_cl (by omega)
    have kf : y_cM Dh R (y_fgo S i 12) (ad i) ms[i] := y_cM_fr k4 (fun b hb _ => y_fgo_ne (by omega))
    have hDf : I_dir (y_fgo S i 12) := I_dir_fr hD ⟨y_fgo_ne (by decide), y_fgo_ne (by decide)⟩
    by_cases c1 : t < 0
    · refine z_R2_no z_code4 rfl rfl h_I_ref ?_ ?_ (J_post_no h_I_ref J H E z_code4)
      · show z_cI 5 85 [.inr (.inr (some 6)), .inl (nI i), .inl t, .inl l] _ = _
        rw [E85]
        simp only [M122 z_code4, z_bs, g_6_1, o_8, o_6, M43n J hi, z_nulS (show 6 ≤ ad i by omega), z_ff, c1, Int32.not_le.mpr c1, true_or, or_true, or_self, false_or, or_false, not_true, not_false_eq_true, Classical.not_not, z_10, z_iT, z_iF]
      · show z_cI 2 143 [.inr (.inr (some 52)), .inl (nI i), .inl t, .inl l] _ = _
        rw [E143]
        simp only [M131 z_code4, z_bs, o_52, M133 (S := (z_no 7 S (-4))) (n := ms.length) (show (z_no 7 S (-4)) 52 2 = nI ms.length from J.2.2.1), d1, c1, Int32.not_le.mpr c1, true_or, or_true, or_self, false_or, or_false, not_true, not_false_eq_true, Classical.not_not, z_10, z_iT, z_iF]
    · skip
      by_cases c2 : l < 0
      · refine z_R2_no z_code4 rfl rfl h_I_ref ?_ ?_ (J_post_no h_I_ref J H E z_code4)
        · show z_cI 5 85 [.inr (.inr (some 6)), .inl (nI i), .inl t, .inl l] _ = _
          rw [E85]
          simp only [M122 z_code4, z_bs, g_6_1, o_8, o_6, M43n J hi, z_nulS (show 6 ≤ ad i by omega), z_ff, c1, Int32.not_lt.mp c1, c2, Int32.not_le.mpr c2, true_or, or_true, or_self, false_or, or_false, not_true, not_false_eq_true, Classical.not_not, z_10, z_iT, z_iF]
        · show z_cI 2 143 [.inr (.inr (some 52)), .inl (nI i), .inl t, .inl l] _ = _
          rw [E143]
          simp only [M131 z_code4, z_bs, o_52, M133 (S := (z_no 7 S (-4))) (n := ms.length) (show (z_no 7 S (-4)) 52 2 = nI ms.length from J.2.2.1), d1, c1, Int32.not_lt.mp c1, c2, Int32.not_le.mpr c2, true_or, or_true, or_self, false_or, or_false, not_true, not_false_eq_true, Classical.not_not, z_10, z_iT, z_iF]
      · skip
        by_cases c3 : 600 < t
        · refine z_R2_no z_code6 rfl rfl h_I_ref ?_ ?_ (J_post_no h_I_ref J H E z_code6)
          · show z_cI 5 85 [.inr (.inr (some 6)), .inl (nI i), .inl t, .inl l] _ = _
            rw [E85]
            simp only [M122 z_code6, z_bs, g_6_1, o_8, o_6, M43n J hi, z_nulS (show 6 ≤ ad i by omega), z_ff, c1, Int32.not_lt.mp c1, c2, Int32.not_lt.mp c2, c3, Int32.not_le.mpr c3, true_or, or_true, or_self, false_or, or_false, not_true, not_false_eq_true, Classical.not_not, z_10, z_iT, z_iF]
          · show z_cI 2 143 [.inr (.inr (some 52)), .inl (nI i), .inl t, .inl l] _ = _
            rw [E143]
            simp only [M131 z_code6, z_bs, o_52, M133 (S := (z_no 7 S (-6))) (n := ms.length) (show (z_no 7 S (-6)) 52 2 = nI ms.length from J.2.2.1), d1, c1, Int32.not_lt.mp c1, c2, Int32.not_lt.mp c2, c3, Int32.not_le.mpr c3, true_or, or_true, or_self, false_or, or_false, not_true, not_false_eq_true, Classical.not_not, z_10, z_iT, z_iF]
        · skip
          by_cases c4 : 9 < l
          · refine z_R2_no z_code6 rfl rfl h_I_ref ?_ ?_ (J_post_no h_I_ref J H E z_code6)
            · show z_cI 5 85 [.inr (.inr (some 6)), .inl (nI i), .inl t, .inl l] _ = _
              rw [E85]
              simp only [M122 z_code6, z_bs, g_6_1, o_8, o_6, M43n J hi, z_nulS (show 6 ≤ ad i by omega), z_ff, c1, Int32.not_lt.mp c1, c2, Int32.not_lt.mp c2, c3, Int32.not_lt.mp c3, c4, Int32.not_le.mpr c4, true_or, or_true, or_self, false_or, or_false, not_true, not_false_eq_true, Classical.not_not, z_10, z_iT, z_iF]
            · show z_cI 2 143 [.inr (.inr (some 52)), .inl (nI i), .inl t, .inl l] _ = _
              rw [E143]
              simp only [M131 z_code6, z_bs, o_52, M133 (S := (z_no 7 S (-6))) (n := ms.length) (show (z_no 7 S (-6)) 52 2 = nI ms.length from J.2.2.1), d1, c1, Int32.not_lt.mp c1, c2, Int32.not_lt.mp c2, c3, Int32.not_lt.mp c3, c4, Int32.not_le.mpr c4, true_or, or_true, or_self, false_or, or_false, not_true, not_false_eq_true, Classical.not_not, z_10, z_iT, z_iF]
          · skip
            obtain ⟨u, hu, rfl⟩ := nI_of2 (n := 600) rfl c1 (Int32.not_lt.mp c3)
            obtain ⟨v, hv, rfl⟩ := nI_of2 (n := 9) rfl c2 (Int32.not_lt.mp c4)
            obtain ⟨S1, e1, e2, e3⟩ := M28 (L := L) (nx := nx) (sl := sl) hDf kf k3 hu hv
            have s1 : ∀ b, b < 87 → S1 b = y_fgo S i 12 b := fun b hb => e3 b (by omega) (by omega)
            have m2 : S1 52 2 = nI ms.length := by rw [s1 52 (by decide), y_fgo_ne (by decide)]; exact J.2.2.1
            have m58 : S1 58 i = nI (ms[i]).2.2.2.1 := by rw [s1 58 (by decide), y_fgo_ne (by decide)]; exact k5.2.2.2.1
            have m49 : S1 52 49 = S 52 49 := by rw [s1 52 (by decide), y_fgo_ne (by decide)]
            have fin : ∀ b, b ≠ 58 → b ≠ 59 → b ≠ 52 → z_ups (z_ups (z_ups S1 58 i (nI u)) 59 i (nI v)) 52 49 (S 52 49 + 1) b = S1 b := fun b q1 q2 q3 => by rw [z_ups_ne q3, z_ups_ne q2, z_ups_ne q1]
            have fin2 : ∀ k, k ≠ 49 → z_ups (z_ups (z_ups S1 58 i (nI u)) 59 i (nI v)) 52 49 (S 52 49 + 1) 52 k = S 52 k := fun k q => by rw [z_upsE, if_pos rfl, if_neg q, z_ups_ne (by decide), z_ups_ne (by decide), s1 52 (by decide), y_fgo_ne (by decide)]
            have hbb : ∀ b, 87 ≤ b → b < ad i ∨ ad i + 6 ≤ b → z_ups (z_ups (z_ups S1 58 i (nI u)) 59 i (nI v)) 52 49 (S 52 49 + 1) b = S b := fun b q1 q2 => by rw [fin b (by omega) (by omega) (by omega), e3 b (by omega) (by omega), y_fgo_ne (by omega)]
            refine ⟨nI (ms[i]).2.2.2.1, S1, z_ups (z_ups (z_ups S1 58 i (nI u)) 59 i (nI v)) 52 49 (S 52 49 + 1), ?_, ?_, ⟨fun b hb h52 => ?_, fun k hk => ?_⟩, ?_, ⟨ms.set i ((ms[i]).1, (ms[i]).2.1, (ms[i]).2.2.1, u, v, (ms[i]).2.2.2.2.2), ?_, ?_, ?_⟩, ?_⟩
            · show z_cI 5 85 _ _ = _
              rw [E85]
              simp only [g_6_1, o_8, o_6, M43n J hi, z_nulS (show 6 ≤ ad i by omega), z_ff, z_bs, c1, Int32.not_lt.mp c1, c2, Int32.not_lt.mp c2, c3, Int32.not_lt.mp c3, c4, Int32.not_lt.mp c4, true_or, or_true, or_self, false_or, or_false, not_true, not_false_eq_true, Classical.not_not, z_10, z_iT, z_iF, M46 h12, y_ob k4.1, e1]
            · show z_cI 2 143 _ _ = _
              rw [E143]
              simp only [o_52, M133 m2, d1, z_bs, c1, Int32.not_lt.mp c1, c2, Int32.not_lt.mp c2, c3, Int32.not_lt.mp c3, c4, Int32.not_lt.mp c4, true_or, or_true, or_self, false_or, or_false, not_true, not_false_eq_true, Classical.not_not, z_10, z_iT, z_iF, g_52_6, g_52_7, l_58 i1, s_58 i1, s_59 i1, i2, m58, g_52_49, p_52_49, z_ups_ne (show (52 : Nat) ≠ 59 by decide), z_ups_ne (show (52 : Nat) ≠ 58 by decide), m49]
            · have h7 : b ≠ 58 ∧ b ≠ 59 ∧ b ≠ 12 ∧ b < 87 := by
                unfold A_mv at hb
                rw [Bool.or_eq_false_iff, decide_eq_false_iff_not, decide_eq_false_iff_not] at hb
                refine ⟨fun q => hb.1 (by rw [q]; decide), fun q => hb.1 (by rw [q]; decide), fun q => hb.1 (by rw [q]; decide), by omega⟩
              rw [fin b h7.1 h7.2.1 h52, s1 b h7.2.2.2, y_fgo_ne h7.2.2.1]
            · exact fin2 k (fun q => by rw [q] at hk; exact absurd hk (by decide))
            · exact I_ref_fr h_I_ref ⟨by rw [fin 7 (by decide) (by decide) (by decide), s1 7 (by decide), y_fgo_ne (by decide)], by rw [fin 86 (by decide) (by decide) (by decide), s1 86 (by decide), y_fgo_ne (by decide)]⟩
            · refine J_upd J hi ⟨k3.1, k3.2.1, k3.2.2.1, hu, hv, k3.2.2.2.2.2.1, k3.2.2.2.2.2.2⟩ ?_ (fin2 2 (by decide)) (y_cM_fr e2 (fun b hb _ => fin b (by omega) (by omega) (by omega))) ?_ hbb (fun j hj hj2 => ?_)
              · rw [fin 8 (by decide) (by decide) (by decide), s1 8 (by decide), y_fgo_ne (by decide)]
              · obtain ⟨g1, g2, g3, g4, g5, g6, g7, g8⟩ := k5
                have f : ∀ b, b ≠ 58 → b ≠ 59 → b ≠ 52 → b ≠ 12 → b < 87 → z_ups (z_ups (z_ups S1 58 i (nI u)) 59 i (nI v)) 52 49 (S 52 49 + 1) b = S b := fun b q1 q2 q3 q4 q5 => by rw [fin b q1 q2 q3, s1 b q5, y_fgo_ne q4]
                unfold y_mM
                rw [f 55 (by decide) (by decide) (by decide) (by decide) (by decide), f 56 (by decide) (by decide) (by decide) (by decide) (by decide), f 57 (by decide) (by decide) (by decide) (by decide) (by decide), f 60 (by decide) (by decide) (by decide) (by decide) (by decide), f 61 (by decide) (by decide) (by decide) (by decide) (by decide), f 62 (by decide) (by decide) (by decide) (by decide) (by decide)]
                refine ⟨g1, g2, g3, ?_, ?_, g6, g7, g8⟩
                · rw [z_ups_ne (by decide), z_ups_ne (by decide), z_upsE, if_pos rfl, if_pos rfl]
                · rw [z_ups_ne (by decide), z_upsE, if_pos rfl, if_pos rfl]
              · have f : ∀ b, b ≠ 58 → b ≠ 59 → b ≠ 52 → b ≠ 12 → b < 87 → z_ups (z_ups (z_ups S1 58 i (nI u)) 59 i (nI v)) 52 49 (S 52 49 + 1) b = S b := fun b q1 q2 q3 q4 q5 => by rw [fin b q1 q2 q3, s1 b q5, y_fgo_ne q4]
                rw [f 55 (by decide) (by decide) (by decide) (by decide) (by decide), f 56 (by decide) (by decide) (by decide) (by decide) (by decide), f 57 (by decide) (by decide) (by decide) (by decide) (by decide), f 60 (by decide) (by decide) (by decide) (by decide) (by decide), f 61 (by decide) (by decide) (by decide) (by decide) (by decide), f 62 (by decide) (by decide) (by decide) (by decide) (by decide)]
                refine ⟨rfl, rfl, rfl, ?_, ?_, rfl, rfl, fun _ _ _ _ => rfl⟩
                · rw [z_ups_ne (by decide), z_ups_ne (by decide), z_upsE, if_pos rfl, if_neg hj, s1 58 (by decide), y_fgo_ne (by decide)]
                · rw [z_ups_ne (by decide), z_upsE, if_pos rfl, if_neg hj, z_ups_ne (by decide), s1 59 (by decide), y_fgo_ne (by decide)]
            · exact J_hit_upd H h12' hi (fun q => by rw [fin 12 (by decide) (by decide) (by decide), s1 12 (by decide)])
            · exact J_ed_up hkk E (by rw [z_upsE, if_pos rfl, if_pos rfl]) (fin2 50 (by decide))
            · exact y_oth J hi hbb
end ZSI
