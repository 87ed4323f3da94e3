section ZTG
variable {L : Nat} {Dh : Nat → z_Sh} {S : Nat → Nat → Int32} {R : Nat → Nat → Option Nat} {nx sl : Nat}
variable {tx : Nat → Option (Nat × Nat)}
theorem y_X19 (R : Nat → Nat → Option Nat) : y_Tx L Dh (z_upR R 19 4 (some 22)) nx sl 19 20 := by
  refine ⟨fun S => o_19, fun S => g_19_0, fun S => g_19_1, fun S => g_19_2, fun S => g_19_3, fun S x => p_19_1 x, fun S x => p_19_2 x, fun S x => p_19_3 x, fun S i hi => ?_, fun S => ?_, by decide, by decide, by decide, by decide⟩
  · rw [l_20 (z_in_nI hi (by decide)), z_cl (by omega)]
  · rw [g_19_4]; rfl
theorem y_flt_1 {f val : Nat → Int32} {n : Nat} (h : y_flt f n val = none) : 1 ≤ n := by
  have hb := y_os_b f n (y_tst f n val 5) (fun a ha => y_tst_b f n val 5 a ha) 61 false true 0 (by omega)
  unfold y_flt y_all at h
  cases hr : y_os f n (y_tst f n val 5) 61 false true 0 with
  | inl q => rw [hr] at h; cases h
  | inr x => rw [hr] at hb; obtain ⟨w1, w2⟩ := hb; omega
def J_txd (Dh : Nat → z_Sh) (S : Nat → Nat → Int32) (R : Nat → Nat → Option Nat) (nx sl : Nat) (D' : Nat → z_Sh) (S' : Nat → Nat → Int32) (R' : Nat → Nat → Option Nat) (nx' sl' : Nat) : Prop :=
  I_ref S' ∧ I_tap S' ∧ (∃ tx, J_txt tx D' S' R' nx') ∧ (∀ b, b < 87 → decide (b ∈ [7, 18, 19, 52, 66, 67, 68, 86]) = false → S' b = S b) ∧ (∀ q, q ≠ 2 → S' 18 q = S 18 q) ∧ (∀ q, q ≠ 15 → q ≠ 18 → S' 52 q = S 52 q) ∧ (∀ b, 87 ≤ b → b < nx → D' b = Dh b ∧ (y_nt Dh b → S' b = S b ∧ R' b = R b)) ∧ (∀ b, b < 87 → b ≠ 19 → b ≠ 21 → R' b = R b) ∧ nx ≤ nx' ∧ nx' ≤ nx + 6 ∧ sl' ≤ sl + 700
/-- nothing of the texts is written -/
theorem J_txt_fr {D' : Nat → z_Sh} {S' : Nat → Nat → Int32} {R' : Nat → Nat → Option Nat} {nx' : Nat} (J : J_txt tx Dh S R nx) (h1 : S' 18 2 = S 18 2) (h2 : S' 52 15 = S 52 15) (h3 : S' 66 = S 66) (h4 : S' 67 = S 67) (h5 : R' 21 = R 21) (hn : nx ≤ nx') (h6 : ∀ b, 87 ≤ b → b < nx → (Dh b = .inr (.inr (9, [2, 0, 0, 0, 2])) ∨ Dh b = .inl (2, 60)) → D' b = Dh b ∧ (Dh b = .inl (2, 60) → S' b = S b) ∧ S' b 1 = S b 1 ∧ R' b 0 = R b 0) : J_txt tx D' S' R' nx' := by
  obtain ⟨j1, j2, k, j3, j4, j5⟩ := J
  refine ⟨fun c hc => ?_, j2, k, j3, h1.trans j4, h2.trans j5⟩
  refine J_txc_fr (j1 c hc) (by rw [h5]) (by rw [h4]) (fun i _ => by rw [h3]) hn (fun p hp => ?_)
  have h := j1 c hc
  rw [hp] at h
  obtain ⟨a1, a2, a3, a4, a5, -⟩ := h
  have w1 := h6 p.1 (by omega) (by omega) (Or.inl a4)
  have w2 := h6 (p.1 + 1) (by omega) (by omega) (Or.inr a5)
  exact ⟨w1.1, w2.1, w1.2.2.1, w2.2.1 a5, w1.2.2.2⟩
theorem J_txd_no {c : Int32} (h_I_ref : I_ref S) (h_I_tap : I_tap S) (J : J_txt tx Dh S R nx) (hc : z_code c) : J_txd Dh S R nx sl Dh (z_no 86 (z_no 7 S c) c) R nx sl := by
  have ne : ∀ b, b ≠ 7 → b ≠ 86 → z_no 86 (z_no 7 S c) c b = S b := fun b q1 q2 => by rw [z_no_ne q2, z_no_ne q1]
  refine ⟨z_no_ref h_I_ref hc, I_tap_fr h_I_tap ⟨rfl, rfl, rfl, rfl⟩, ⟨tx, J_txt_fr J rfl rfl rfl rfl rfl (Nat.le_refl _) (fun b hb _ _ => ⟨rfl, fun _ => ne b (by omega) (by omega), by rw [ne b (by omega) (by omega)], rfl⟩)⟩, fun b _ hm => ?_, fun q _ => by rw [ne 18 (by decide) (by decide)], fun q _ _ => by rw [ne 52 (by decide) (by decide)], fun b hb _ => ⟨rfl, fun _ => ⟨ne b (by omega) (by omega), rfl⟩⟩, fun _ _ _ _ => rfl, Nat.le_refl _, by omega, by omega⟩
  have hm := of_decide_eq_false hm
  exact ne b (fun q => hm (by rw [q]; decide)) (fun q => hm (by rw [q]; decide))
theorem y_lt40 {n : Nat} (h : n ≤ 40) : (nI n < 40) = ¬ (40 ≤ n) := propext ⟨fun h q => by have a := z_lt.mp h; rw [z_nI (by omega)] at a; have e1 : (40 : Int32).toInt = 40 := rfl; omega, fun q => z_lt.mpr (by rw [z_nI (by omega)]; have e1 : (40 : Int32).toInt = 40 := rfl; omega)⟩
theorem y_eq40 {n : Nat} (h : n ≤ 40) : (nI n = 40) = (40 ≤ n) := propext ⟨fun q => by have a := z_eq.mp q; rw [z_nI (by omega)] at a; have e1 : (40 : Int32).toInt = 40 := rfl; omega, fun q => z_eq.mpr (by rw [z_nI (by omega)]; have e1 : (40 : Int32).toInt = 40 := rfl; omega)⟩
theorem z_le56 (d : Int32) : (d ≤ 5) = ¬ (6 ≤ d) := propext ⟨fun h q => by have a := z_le.mp h; have b := z_le.mp q; have e1 : (5 : Int32).toInt = 5 := rfl; have e2 : (6 : Int32).toInt = 6 := rfl; omega, fun h => z_le.mpr (by have b := z_lt.mp (Int32.not_le.mp h); have e1 : (5 : Int32).toInt = 5 := rfl; have e2 : (6 : Int32).toInt = 6 := rfl; omega)⟩
/-- the class's text for a call: there, or made now -/
theorem M39a (h87 : 87 ≤ nx) (J : J_txt tx Dh S R nx) {c : Nat} (hc : c < 6) {A : Int32} : ∃ D2 S3 R2 nx2 sl2 o, ((z_ldR (z_mk L Dh (y_tc S 19 A (-1)) (z_upR R 19 4 (some 22)) nx sl) (some 21) (nI c)).bind fun x7 => (z_nul x7).bind fun q8 => if q8 = true then ((z_gR (z_mk L Dh (y_tc S 19 A (-1)) (z_upR R 19 4 (some 22)) nx sl) (some 18) 6 1).bind fun x9 => (z_nul (some (z_mk L Dh (y_tc S 19 A (-1)) (z_upR R 19 4 (some 22)) nx sl).1)).bind fun q12 => if q12 = false then (z_cV 1 68 [.inr (.inr (some (z_mk L Dh (y_tc S 19 A (-1)) (z_upR R 19 4 (some 22)) nx sl).1))] (z_new 9 (z_mk L Dh (y_tc S 19 A (-1)) (z_upR R 19 4 (some 22)) nx sl))).bind (fun h10 => (z_stR h10 x9 (nI c) (some (z_mk L Dh (y_tc S 19 A (-1)) (z_upR R 19 4 (some 22)) nx sl).1)).bind fun h11 => L39_64 (some 18) (nI c) h11) else none) else (L39_64 (some 18) (nI c) (z_mk L Dh (y_tc S 19 A (-1)) (z_upR R 19 4 (some 22)) nx sl))) = L39_64 (some 18) (nI c) (z_mk L D2 S3 R2 nx2 sl2) ∧ y_To D2 R2 o ∧ R2 21 c = some o ∧ o + 2 ≤ nx2 ∧ nx ≤ nx2 ∧ nx2 ≤ nx + 6 ∧ sl2 ≤ sl + 700 ∧ (∀ b, b < nx → D2 b = Dh b) ∧ (∀ b, b < nx → b ≠ 19 → S3 b = S b) ∧ S3 19 1 = S 19 1 ∧ (∀ b, b < nx → b ≠ 19 → b ≠ 21 → R2 b = R b) ∧ (∀ d, d ≠ c → R2 21 d = R 21 d) ∧ (∀ d p, d < 6 → d ≠ c → tx d = some p → p.1 + 2 ≤ o ∨ o + 2 ≤ p.1) ∧ (o = nx ∨ (Dh o = .inr (.inr (9, [2, 0, 0, 0, 2])) ∧ Dh (o + 1) = .inl (2, 60) ∧ o + 2 ≤ nx)) := by
  have c1 : z_in (nI c) 6 = true := z_in_nI hc (by decide)
  have c2 : (nI c).toNatClampNeg = c := z_cl (by omega)
  have h := J.1 c hc
  rw [l_21 c1, c2, show z_upR R 19 4 (some 22) 21 c = R 21 c from rfl]
  simp only [z_bs]
  cases ht : tx c with
  | none =>
    rw [ht] at h
    have h : R 21 c = none ∧ S 67 c = 0 := h
    rw [h.1]
    simp only [z_nulN, z_bs, z_tt, z_iT, g_18_1, z_mk1, z_nulS (show 6 ≤ nx by omega), z_fe0]
    rw [m_new (ci := 9) (n := 5) (ks := [2, 0, 0, 0, 2]) h87 rfl rfl rfl, E68]
    obtain ⟨D1, hD1⟩ : ∃ D1, D1 = z_sa Dh nx (.inr (.inr (9, [2, 0, 0, 0, 2]))) := ⟨_, rfl⟩
    obtain ⟨Sa, hSa⟩ : ∃ Sa, Sa = z_sa (y_tc S 19 A (-1)) nx (fun _ => (0 : Int32)) := ⟨_, rfl⟩
    obtain ⟨Ra, hRa⟩ : ∃ Ra, Ra = z_sa (z_upR R 19 4 (some 22)) nx (fun _ => (none : Option Nat)) := ⟨_, rfl⟩
    rw [← hD1, ← hSa, ← hRa]
    simp only [z_nulS (show 6 ≤ nx by omega), z_bs, z_mk1, if_true]
    rw [m_nwI (show 87 ≤ nx + 1 by omega)]
    obtain ⟨D2, hD2⟩ : ∃ D2, D2 = z_sa D1 (nx + 1) (.inl (2, 60)) := ⟨_, rfl⟩
    obtain ⟨Sb, hSb⟩ : ∃ Sb, Sb = z_sa Sa (nx + 1) (fun _ => (0 : Int32)) := ⟨_, rfl⟩
    obtain ⟨Rb, hRb⟩ : ∃ Rb, Rb = z_upR Ra nx 0 (some (nx + 1)) := ⟨_, rfl⟩
    rw [← hD2, ← hSb]
    have t2 : D2 nx = .inr (.inr (9, [2, 0, 0, 0, 2])) := by rw [hD2, z_sa_ne (by omega), hD1, z_sa_s]
    rw [m_pR ((y_shp h87).trans t2) rfl, ← hRb]
    simp only [z_bs]
    rw [m_pI ((y_shp h87).trans t2) rfl (by decide) (Or.inl rfl)]
    simp only [z_bs]
    rw [m_stR (a := 21) (b := nx) (t := 5) (n := 6) (cj := 9) rfl (Or.inr (Or.inr rfl)) ((y_shp h87).trans t2) rfl c1, c2]
    simp only [z_bs]
    refine ⟨D2, _, _, _, _, nx, rfl, ⟨h87, t2, by rw [hD2, z_sa_s], ?_⟩, ?_, by omega, by omega, by omega, by omega, fun b hb => ?_, fun b hb h19 => ?_, ?_, fun b hb q1 q2 => ?_, fun d hd => ?_, fun d p hd hdc hp => ?_, Or.inl rfl⟩
    · rw [z_upR_ne (by omega), hRb]; simp [z_upR, z_upr]
    · simp [z_upR, z_upr]
    · rw [hD2, z_sa_ne (by omega), hD1, z_sa_ne (by omega)]
    · rw [z_ups_ne (by omega), hSb, z_sa_ne (by omega), hSa, z_sa_ne (by omega), y_tcn h19]
    · rw [z_ups_ne (by omega), hSb, z_sa_ne (by omega), hSa, z_sa_ne (by omega), y_tc1]
    · rw [z_upR_ne q2, hRb, z_upR_ne (by omega), hRa, z_sa_ne (by omega), z_upR_ne q1]
    · have e1 : z_upR Rb 21 c (some nx) 21 d = Rb 21 d := by unfold z_upR z_upr; rw [if_pos rfl, if_neg hd]
      rw [e1, hRb, z_upR_ne (by omega), hRa, z_sa_ne (by omega), z_upR_ne (by decide)]
    · have hj := J.1 d hd
      rw [hp] at hj
      exact Or.inl hj.2.2.1
  | some p =>
    rw [ht] at h
    obtain ⟨a1, a2, a3, a4, a5, a6, -⟩ := h
    rw [a1]
    simp only [z_nulS (show 6 ≤ p.1 by omega), z_bs, z_ff, z_iF]
    refine ⟨Dh, _, _, _, _, p.1, rfl, ⟨a2, a4, a5, by rw [z_upR_ne (by omega)]; exact a6⟩, by rw [z_upR_ne (by decide)]; exact a1, a3, Nat.le_refl _, by omega, by omega, fun _ _ => rfl, fun b _ h19 => y_tcn h19, y_tc1, fun b _ q1 _ => z_upR_ne q1, fun d _ => by rw [z_upR_ne (by decide)], fun d q hd hdc hq => ?_, Or.inr ⟨a4, a5, a3⟩⟩
    rcases J.2.1 d c q p hd hc hdc hq ht with w | w
    · exact Or.inl w
    · exact Or.inr w
theorem S_text (h87 : 87 ≤ nx) (h_I_ref : I_ref S) (h_I_tap : I_tap S) (hlet : I_let S) (J : J_txt tx Dh S R nx) (x : Int32) : z_R3 (fun h => z_cI 63 99 [.inr (.inr (some 6)), .inl x] h) (fun h => z_cI 3 175 [.inr (.inr (some 52)), .inl x] h) L Dh S R nx sl (J_txd Dh S R nx sl) := by
  obtain ⟨k, hk, k1, k2⟩ := J.2.2
  by_cases c1 : x < 0
  · refine z_R3_no z_code1 h_I_ref ?_ ?_ (J_txd_no h_I_ref h_I_tap J z_code1)
    · show z_cI 63 99 _ _ = _
      rw [E99]
      simp only [M122 z_code1, z_bs, o_6, g_6_3, g_18_2, k1, y_lt40 hk, c1, Int32.not_le.mpr c1, true_or, or_true, or_self, false_or, or_false, not_true, not_false_eq_true, Classical.not_not, z_10, z_iT, z_iF]
    · show z_cI 3 175 _ _ = _
      rw [E175]
      simp only [M131 z_code1, z_bs, o_52, z_le56, g_52_15, show (z_no 7 S (-1)) 52 15 = nI k from k2, y_eq40 hk, c1, Int32.not_le.mpr c1, true_or, or_true, or_self, false_or, or_false, not_true, not_false_eq_true, Classical.not_not, z_10, z_iT, z_iF]
  · skip
    by_cases c2 : 6 ≤ x
    · refine z_R3_no z_code1 h_I_ref ?_ ?_ (J_txd_no h_I_ref h_I_tap J z_code1)
      · show z_cI 63 99 _ _ = _
        rw [E99]
        simp only [M122 z_code1, z_bs, o_6, g_6_3, g_18_2, k1, y_lt40 hk, c1, Int32.not_lt.mp c1, c2, Int32.not_lt.mpr c2, true_or, or_true, or_self, false_or, or_false, not_true, not_false_eq_true, Classical.not_not, z_10, z_iT, z_iF]
      · show z_cI 3 175 _ _ = _
        rw [E175]
        simp only [M131 z_code1, z_bs, o_52, z_le56, g_52_15, show (z_no 7 S (-1)) 52 15 = nI k from k2, y_eq40 hk, c1, Int32.not_lt.mp c1, c2, Int32.not_lt.mpr c2, true_or, or_true, or_self, false_or, or_false, not_true, not_false_eq_true, Classical.not_not, z_10, z_iT, z_iF]
    · skip
      by_cases c3 : 40 ≤ k
      · refine z_R3_no z_code6 h_I_ref ?_ ?_ (J_txd_no h_I_ref h_I_tap J z_code6)
        · show z_cI 63 99 _ _ = _
          rw [E99]
          simp only [M122 z_code6, z_bs, o_6, g_6_3, g_18_2, k1, y_lt40 hk, c1, Int32.not_lt.mp c1, c2, Int32.not_le.mp c2, c3, true_or, or_true, or_self, false_or, or_false, not_true, not_false_eq_true, Classical.not_not, z_10, z_iT, z_iF]
        · show z_cI 3 175 _ _ = _
          rw [E175]
          simp only [M131 z_code6, z_bs, o_52, z_le56, g_52_15, show (z_no 7 S (-6)) 52 15 = nI k from k2, y_eq40 hk, c1, Int32.not_lt.mp c1, c2, Int32.not_le.mp c2, c3, true_or, or_true, or_self, false_or, or_false, not_true, not_false_eq_true, Classical.not_not, z_10, z_iT, z_iF]
      · skip
        obtain ⟨c, hc, rfl⟩ := z_plc (n := 6) (by omega) c1 c2
        obtain ⟨t, ht, t1, t2, t3⟩ := id h_I_tap
        have B : y_Tb S 19 20 (S 20) t (S 22) := ⟨t1, ht, fun _ _ => rfl, fun i hi => (t3 i hi).2, fun _ _ => rfl, hlet⟩
        obtain ⟨A, e72⟩ := M72 (L := L) (Dh := Dh) (nx := nx) (sl := sl) (R0 := R) (fun S => p_19_4 (some 22)) (y_X19 R) B
        have ec : ∀ r X, z_cI 62 39 [.inr (.inr (some 18)), .inl (nI c)] (z_mk L Dh S R nx sl) = some (r, X) → z_cI 63 99 [.inr (.inr (some 6)), .inl (nI c)] (z_mk L Dh S R nx sl) = some (r, X) := fun r X h => by
          rw [E99]
          simp only [o_6, g_6_3, g_18_2, k1, y_lt40 hk, z_bs, c1, Int32.not_lt.mp c1, c2, Int32.not_le.mp c2, c3, true_or, or_true, or_self, false_or, or_false, not_true, not_false_eq_true, Classical.not_not, z_10, z_iT, z_iF, o_18, h]
        have e39 : z_cI 62 39 [.inr (.inr (some 18)), .inl (nI c)] (z_mk L Dh S R nx sl) = (if y_ftI (y_flt (S 20) t (S 22)) = (-1 : Int32) then ((z_ldR (z_mk L Dh (y_tc S 19 A (y_ftI (y_flt (S 20) t (S 22)))) (z_upR R 19 4 (some 22)) nx sl) (some 21) (nI c)).bind fun x7 => (z_nul x7).bind fun q8 => if q8 = true then ((z_gR (z_mk L Dh (y_tc S 19 A (y_ftI (y_flt (S 20) t (S 22)))) (z_upR R 19 4 (some 22)) nx sl) (some 18) 6 1).bind fun x9 => (z_nul (some (z_mk L Dh (y_tc S 19 A (y_ftI (y_flt (S 20) t (S 22)))) (z_upR R 19 4 (some 22)) nx sl).1)).bind fun q12 => if q12 = false then (z_cV 1 68 [.inr (.inr (some (z_mk L Dh (y_tc S 19 A (y_ftI (y_flt (S 20) t (S 22)))) (z_upR R 19 4 (some 22)) nx sl).1))] (z_new 9 (z_mk L Dh (y_tc S 19 A (y_ftI (y_flt (S 20) t (S 22)))) (z_upR R 19 4 (some 22)) nx sl))).bind (fun h10 => (z_stR h10 x9 (nI c) (some (z_mk L Dh (y_tc S 19 A (y_ftI (y_flt (S 20) t (S 22)))) (z_upR R 19 4 (some 22)) nx sl).1)).bind fun h11 => L39_64 (some 18) (nI c) h11) else none) else (L39_64 (some 18) (nI c) (z_mk L Dh (y_tc S 19 A (y_ftI (y_flt (S 20) t (S 22)))) (z_upR R 19 4 (some 22)) nx sl))) else (some ((-20 : Int32) - y_ftI (y_flt (S 20) t (S 22)), z_mk L Dh (z_ups (y_tc S 19 A (y_ftI (y_flt (S 20) t (S 22)))) 19 1 0) (z_upR R 19 4 (some 22)) nx sl))) := by
          rw [E39]
          simp only [g_18_0, g_18_3, g_18_1, o_19, z_bs, e72, g_19_3, y_tc3, p_19_1, z_upsK (show (3 : Nat) ≠ 1 by decide)]
        have em : ∀ (D2 : Nat → z_Sh) (S1 : Nat → Nat → Int32) (R2 : Nat → Nat → Option Nat) (nx2 sl2 : Nat), S1 52 = S 52 → S1 65 = S 65 → ∃ S4, (∀ b, b ≠ 68 → S4 b = S1 b) ∧ z_cI 3 175 [.inr (.inr (some 52)), .inl (nI c)] (z_mk L D2 S1 R2 nx2 sl2) = if y_ftI (y_flt (S 20) t (S 22)) < (0 : Int32) then L175_58 (some 52) (nI c) (nI t) 0 (z_mk L D2 (z_ups S4 52 18 0) R2 nx2 sl2) else some ((-20 : Int32) - y_ftI (y_flt (S 20) t (S 22)), z_mk L D2 (z_ups S4 52 18 0) R2 nx2 sl2) := fun D2 S1 R2 nx2 sl2 q52 q65 => by
          obtain ⟨S4, f1, f2⟩ := M174 (L := L) (Dh := D2) (R := R2) (nx := nx2) (sl := sl2) (S := S1) (f := S 20) (n := t) ⟨by rw [q52]; exact t2, ht, fun i hi => by rw [q65]; exact (t3 i hi).1.symm⟩ (S 22)
          refine ⟨S4, f2, ?_⟩
          have q15 : S1 52 15 = nI k := by rw [q52]; exact k2
          have q18 : S4 52 18 = nI t := by rw [f2 52 (by decide), q52]; exact t2
          rw [E175]
          simp only [o_52, z_le56, g_52_15, q15, y_eq40 hk, z_bs, c1, Int32.not_lt.mp c1, c2, Int32.not_le.mp c2, c3, true_or, or_true, or_self, false_or, or_false, not_true, not_false_eq_true, Classical.not_not, z_10, z_iT, z_iF, f1, g_52_18, q18, p_52_18]
        cases hf : y_flt (S 20) t (S 22) with
        | some p =>
          rw [hf] at e39 em
          have hp : p ≤ t := y_flt_le hf
          obtain ⟨S4, g1, g2⟩ := em Dh (z_ups (y_tc S 19 A (y_ftI (some p))) 19 1 0) (z_upR R 19 4 (some 22)) nx sl (by rw [z_ups_ne (by decide), y_tcn (by decide)]) (by rw [z_ups_ne (by decide), y_tcn (by decide)])
          have g4 : ∀ b, b ≠ 68 → b ≠ 19 → S4 b = S b := fun b q1 q2 => by rw [g1 b q1, z_ups_ne q2, y_tcn q2]
          have ne : ∀ b, b ≠ 68 → b ≠ 19 → b ≠ 52 → z_ups S4 52 18 0 b = S b := fun b q1 q2 q3 => by rw [z_ups_ne q3, g4 b q1 q2]
          refine ⟨(-20 : Int32) - y_ftI (some p), Dh, z_ups (y_tc S 19 A (y_ftI (some p))) 19 1 0, z_ups S4 52 18 0, z_upR R 19 4 (some 22), nx, sl, ?_, ?_, ?_, ⟨0, by omega, ?_, by rw [z_upsS]; rfl, fun i hi => absurd hi (Nat.not_lt_zero _)⟩, ⟨tx, ?_⟩, fun b hb hm => ?_, fun q _ => by rw [ne 18 (by decide) (by decide) (by decide)], fun q _ q2 => by rw [z_upsK q2, g4 52 (by decide) (by decide)], fun b hb _ => ⟨rfl, fun _ => ⟨ne b (by omega) (by omega) (by omega), z_upR_ne (by omega)⟩⟩, fun b _ q1 _ => z_upR_ne q1, Nat.le_refl _, by omega, by omega⟩
          · refine ec _ _ ?_
            rw [e39, if_neg (show ¬ y_ftI (some p) = (-1 : Int32) from y_nm1 (by omega))]
          · show z_cI 3 175 _ _ = _
            rw [g2, if_neg (show ¬ y_ftI (some p) < (0 : Int32) from nI_pos (by omega))]
          · exact I_ref_fr h_I_ref ⟨ne 7 (by decide) (by decide) (by decide), ne 86 (by decide) (by decide) (by decide)⟩
          · rw [z_ups_ne (by decide), g1 19 (by decide), z_upsS]; rfl
          · refine J_txt_fr J (by rw [ne 18 (by decide) (by decide) (by decide)]) (by rw [z_upsK (by decide), g4 52 (by decide) (by decide)]) (ne 66 (by decide) (by decide) (by decide)) (ne 67 (by decide) (by decide) (by decide)) (z_upR_ne (by decide)) (Nat.le_refl _) (fun b hb _ _ => ⟨rfl, fun _ => ne b (by omega) (by omega) (by omega), by rw [ne b (by omega) (by omega) (by omega)], by rw [z_upR_ne (by omega)]⟩)
          · have hm := of_decide_eq_false hm
            exact ne b (fun q => hm (by rw [q]; decide)) (fun q => hm (by rw [q]; decide)) (fun q => hm (by rw [q]; decide))
        | none =>
          rw [hf] at e39 em
          have t1' := y_flt_1 hf
          obtain ⟨D2, S3, R2, nx2, sl2, o, a1, a2, a3, a4, a5, a6, a7, a8, a9, a10, a11, a12, a13, a14⟩ := M39a (L := L) (sl := sl) h87 J hc (A := A)
          have o87 := a2.1
          have s20 : S3 20 = S 20 := a9 20 (by omega) (by decide)
          have hoo : o = nx ∨ o + 2 ≤ nx := by rcases a14 with w | w; exact Or.inl w; exact Or.inr w.2.2
          have e64 := M39_64 (L := L) (nx := nx2) (sl := sl2) (n := t) (k := k) hc a2 a3 ht (by omega) (a10.trans t1) (by rw [a9 18 (by omega) (by decide)]; exact k1) (fun i hi => by rw [s20]; exact (t3 i hi).2)
          rw [s20] at e64
          obtain ⟨S1, hS1⟩ : ∃ S1, S1 = z_ups (z_ups (z_ups (y_fl S3 (o + 1) t (S 20)) o 1 (nI t)) 19 1 0) 18 2 (nI (k + 1)) := ⟨_, rfl⟩
          rw [← hS1] at e64
          have s1 : ∀ b, b ≠ 18 → b ≠ 19 → b ≠ o → b ≠ o + 1 → S1 b = S3 b := fun b q1 q2 q3 q4 => by rw [hS1, z_ups_ne q1, z_ups_ne q2, z_ups_ne q3, y_fl_ne q4]
          have s1s : ∀ b, b < nx → b ≠ 18 → b ≠ 19 → b ≠ o → b ≠ o + 1 → S1 b = S b := fun b q0 q1 q2 q3 q4 => by rw [s1 b q1 q2 q3 q4, a9 b q0 q2]
          obtain ⟨S4, g1, g2⟩ := em D2 S1 R2 nx2 sl2 (s1s 52 (by omega) (by decide) (by decide) (by omega) (by omega)) (s1s 65 (by omega) (by decide) (by decide) (by omega) (by omega))
          have g4 : ∀ b, b ≠ 52 → b ≠ 68 → z_ups S4 52 18 0 b = S1 b := fun b q1 q2 => by rw [z_ups_ne q1, g1 b q2]
          have q65 : z_ups S4 52 18 0 65 = S 65 := by rw [g4 65 (by decide) (by decide)]; exact s1s 65 (by omega) (by decide) (by decide) (by omega) (by omega)
          obtain ⟨T, f1, f2, f3, f4, f5, f6, f7, f8⟩ := M175_58 (L := L) (Dh := D2) (R := R2) (nx := nx2) (sl := sl2) (S := z_ups S4 52 18 0) (k := k) hc ht (by omega) (by rw [z_upsK (by decide), g1 52 (by decide), s1s 52 (by omega) (by decide) (by decide) (by omega) (by omega)]; exact k2) (fun i hi => by rw [q65, ← (t3 i hi).1]; exact (t3 i hi).2) t 0 (z_ups S4 52 18 0) (by omega) (fun _ _ => rfl) (fun q hq => absurd hq (Nat.not_lt_zero _)) (fun _ _ => rfl)
          have fT : ∀ b, b < nx → b ≠ 18 → b ≠ 19 → b ≠ o → b ≠ o + 1 → b ≠ 66 → b ≠ 67 → b ≠ 68 → b ≠ 52 → T b = S b := fun b q0 q1 q2 q3 q4 q5 q6 q7 q8 => by rw [f2 b q5 q6 q8, g4 b q8 q7, s1s b q0 q1 q2 q3 q4]
          have f52 : ∀ q, q ≠ 15 → q ≠ 18 → T 52 q = S 52 q := fun q q1 q2 => by rw [f4 q q1, z_upsK q2, g1 52 (by decide), s1s 52 (by omega) (by decide) (by decide) (by omega) (by omega)]
          have f18 : ∀ q, T 18 q = if q = 2 then nI (k + 1) else S 18 q := fun q => by rw [f2 18 (by decide) (by decide) (by decide), g4 18 (by decide) (by decide), hS1, z_upsE, if_pos rfl, z_ups_ne (by decide), z_ups_ne (by omega), y_fl_ne (by omega), a9 18 (by omega) (by decide)]
          have f191 : T 19 1 = 0 := by rw [f2 19 (by decide) (by decide) (by decide), g4 19 (by decide) (by decide), hS1, z_ups_ne (by decide), z_upsS]
          have fo1 : T o 1 = nI t := by rw [f2 o (by omega) (by omega) (by omega), g4 o (by omega) (by omega), hS1, z_ups_ne (by omega), z_ups_ne (by omega), z_upsS]
          have foo : ∀ i, i < t → T (o + 1) i = S 20 i := fun i hi => by rw [f2 (o + 1) (by omega) (by omega) (by omega), g4 (o + 1) (by omega) (by omega), hS1, z_ups_ne (by omega), z_ups_ne (by omega), z_ups_ne (by omega), y_fl_a, if_pos hi]
          have f66 : ∀ q, (q < c * 61 ∨ c * 61 + 61 ≤ q) → T 66 q = S 66 q := fun q hq => by rw [f8 q hq, g4 66 (by decide) (by decide), s1s 66 (by omega) (by decide) (by decide) (by omega) (by omega)]
          have f67 : ∀ q, T 67 q = if q = c then nI t else S 67 q := fun q => by rw [f3, g4 67 (by decide) (by decide), s1s 67 (by omega) (by decide) (by decide) (by omega) (by omega)]
          refine ⟨nI (k + 1), D2, S1, T, R2, nx2, sl2, ?_, ?_, ?_, ⟨0, by omega, f191, ?_, fun i hi => absurd hi (Nat.not_lt_zero _)⟩, ⟨fun d => if d = c then some (o, t) else tx d, fun d hd => ?_, fun d e p q hd he hde hp hq => ?_, k + 1, by omega, by rw [f18, if_pos rfl], f5⟩, fun b hb hm => ?_, fun q hq => by rw [f18, if_neg hq], f52, fun b hb hb2 => ⟨a8 b hb2, fun hnt => ?_⟩, fun b hb q1 q2 => a11 b (by omega) q1 q2, a5, a6, a7⟩
          · refine ec _ _ ?_
            rw [e39, if_pos (show y_ftI none = (-1 : Int32) from rfl)]
            exact a1.trans e64
          · show z_cI 3 175 _ _ = _
            rw [g2, if_pos (show y_ftI none < (0 : Int32) by decide)]
            exact f1
          · exact I_ref_fr h_I_ref ⟨fT 7 (by omega) (by decide) (by decide) (by omega) (by omega) (by decide) (by decide) (by decide) (by decide), fT 86 (by omega) (by decide) (by decide) (by omega) (by omega) (by decide) (by decide) (by decide) (by decide)⟩
          · rw [f4 18 (by decide), z_upsS]; rfl
          · by_cases w : d = c
            · simp only [if_pos w]
              subst w
              refine ⟨a3, o87, a4, a2.2.1, a2.2.2.1, a2.2.2.2, t1', ht, fo1, by rw [f67, if_pos rfl], fun i hi => ?_, f7, fun val => ?_⟩
              · rw [foo i hi, f6 i hi, q65]
                exact ⟨(t3 i hi).1, (t3 i hi).2⟩
              · rw [y_flt_c (f := T (o + 1)) (g := S 20) (w := S 22) ht foo]
                exact hf
            · simp only [if_neg w]
              refine J_txc_fr (J.1 d hd) (a12 d w) (by rw [f67, if_neg w]) (fun i hi => f66 _ (by
                rcases Nat.lt_or_gt_of_ne w with w | w
                · left; omega
                · right; omega)) a5 (fun p hp => ?_)
              have hj := J.1 d hd
              rw [hp] at hj
              have b1 := hj.2.1
              have b2 := hj.2.2.1
              have dj := a13 d p hd w hp
              refine ⟨a8 _ (by omega), a8 _ (by omega), by rw [fT p.1 (by omega) (by omega) (by omega) (by omega) (by omega) (by omega) (by omega) (by omega) (by omega)], fT (p.1 + 1) (by omega) (by omega) (by omega) (by omega) (by omega) (by omega) (by omega) (by omega) (by omega), by rw [a11 p.1 (by omega) (by omega) (by omega)]⟩
          · by_cases w1 : d = c
            · have w2 : e ≠ c := fun q => hde (w1.trans q.symm)
              have hp : (if d = c then some (o, t) else tx d) = some p := hp
              have hq : (if e = c then some (o, t) else tx e) = some q := hq
              rw [if_pos w1] at hp
              rw [if_neg w2] at hq
              have := Option.some.inj hp
              rw [← this]
              rcases a13 e q he w2 hq with w | w
              · exact Or.inr w
              · exact Or.inl w
            · have hp : (if d = c then some (o, t) else tx d) = some p := hp
              have hq : (if e = c then some (o, t) else tx e) = some q := hq
              rw [if_neg w1] at hp
              by_cases w2 : e = c
              · rw [if_pos w2] at hq
                have := Option.some.inj hq
                rw [← this]
                exact a13 d p hd w1 hp
              · rw [if_neg w2] at hq
                exact J.2.1 d e p q hd he hde hp hq
          · have hm := of_decide_eq_false hm
            exact fT b (by omega) (fun q => hm (by rw [q]; decide)) (fun q => hm (by rw [q]; decide)) (by omega) (by omega) (fun q => hm (by rw [q]; decide)) (fun q => hm (by rw [q]; decide)) (fun q => hm (by rw [q]; decide)) (fun q => hm (by rw [q]; decide))
          · have n1 : b ≠ o := fun q => by
              rcases a14 with w | w
              · omega
              · rw [q] at hnt; exact hnt.1 w.1
            have n2 : b ≠ o + 1 := fun q => by
              rcases a14 with w | w
              · omega
              · rw [q] at hnt; exact hnt.2 w.2.1
            exact ⟨fT b hb2 (by omega) (by omega) n1 n2 (by omega) (by omega) (by omega) (by omega), a11 b hb2 (by omega) (by omega)⟩
end ZTG
