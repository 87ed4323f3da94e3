section ZTM
variable {L : Nat} {Dh : Nat → z_Sh} {S : Nat → Nat → Int32} {R : Nat → Nat → Option Nat} {nx sl : Nat}
variable {n c o : Nat} {val : Nat → Int32} {ms : List y_Mv} {ad : Nat → Nat} {cs : List y_Cm} {ca : Nat → Nat} {st kk : Nat} {tx : Nat → Option (Nat × Nat)}
theorem y_lt_ch {b : Int32} {i : Nat} (h : y_lt b = some i) : (i = 4 → b = 104) ∧ (i = 5 → b = 113) := by
  unfold y_lt at h
  by_cases c0 : b = 119
  · rw [if_pos c0] at h
    have e := Option.some.inj h
    exact ⟨fun q => absurd (e.trans q) (by decide), fun q => absurd (e.trans q) (by decide)⟩
  · rw [if_neg c0] at h
    by_cases c1 : b = 103
    · rw [if_pos c1] at h
      have e := Option.some.inj h
      exact ⟨fun q => absurd (e.trans q) (by decide), fun q => absurd (e.trans q) (by decide)⟩
    · rw [if_neg c1] at h
      by_cases c2 : b = 115
      · rw [if_pos c2] at h
        have e := Option.some.inj h
        exact ⟨fun q => absurd (e.trans q) (by decide), fun q => absurd (e.trans q) (by decide)⟩
      · rw [if_neg c2] at h
        by_cases c3 : b = 116
        · rw [if_pos c3] at h
          have e := Option.some.inj h
          exact ⟨fun q => absurd (e.trans q) (by decide), fun q => absurd (e.trans q) (by decide)⟩
        · rw [if_neg c3] at h
          by_cases c4 : b = 104
          · rw [if_pos c4] at h
            have e := Option.some.inj h
            exact ⟨fun q => c4, fun q => absurd (e.trans q) (by decide)⟩
          · rw [if_neg c4] at h
            by_cases c5 : b = 113
            · rw [if_pos c5] at h
              have e := Option.some.inj h
              exact ⟨fun q => absurd (e.trans q) (by decide), fun q => c5⟩
            · rw [if_neg c5] at h
              by_cases c6 : b = 98
              · rw [if_pos c6] at h
                have e := Option.some.inj h
                exact ⟨fun q => absurd (e.trans q) (by decide), fun q => absurd (e.trans q) (by decide)⟩
              · rw [if_neg c6] at h
                cases h
theorem M40b {f9 f10 f : Nat → Int32} (hO : y_To Dh R o) (hn : n ≤ 60) (hby : ∀ i, i < n → -128 ≤ (f i).toInt ∧ (f i).toInt ≤ 127) (hfl : ∀ val, y_flt f n val = none) (E : y_Ec ms ad cs ca st o n f9 f10 f Dh R nx S) (hv5 : val 5 = nI (y_QL (y_set f9) cs).length) (hv6 : val 6 = y_v6 ms st (y_set f9) (y_set f10)) (hm : y_mr S f n val 5) : ∃ S' A, y_K5 o (z_mk L Dh S R nx sl) = some (y_b (y_val f n val), z_mk L Dh (y_tc S' o A (-1)) (z_upR R o 4 (some 22)) nx sl) ∧ y_gf S S' ∧ S' 12 = S 12 := by
  have hs := (y_shp (L := L) hO.1).trans hO.2.1
  have hM := M71 (L := L) (nx := nx) (sl := sl) E.2.2.2.2.2.2.2.2.2.1 hO hn E.2.2.2.2.2.2.2.2.2.2.1 (i := 5) (by omega)
  rw [E.2.2.2.2.2.2.2.2.2.2.2.1, E.2.2.2.2.2.2.2.2.2.1.2.2.2.2.2.2.1] at hM
  have hM : z_cI 5 71 [.inr (.inr (some o)), .inl (5 : Int32)] (z_mk L Dh S R nx sl) = some (y_b (y_mn f 113 n 0), z_mk L Dh S R nx sl) := hM
  unfold y_K5
  simp only [m_ob hs, z_bs, hM]
  cases hmn : y_mn f 113 n 0 with
  | false =>
    rw [if_pos (show y_b false = 0 from rfl)]
    refine M40c hO hn hby hfl E hv6 ⟨hm.1, fun a i ha hy hi => ?_⟩
    by_cases q : i = 5
    · exfalso
      rw [(y_mn_iff n 0).mpr ⟨a, by omega, by omega, (y_lt_ch hy).2 q⟩] at hmn
      cases hmn
    · exact hm.2 a i ha hy (by omega)
  | true =>
    rw [if_neg (show ¬ y_b true = 0 by decide)]
    obtain ⟨S1, e1, e2, e3⟩ := M15 (L := L) (Dh := Dh) (R := R) (nx := nx) (sl := sl) E.2.1 E.2.2.1
    rw [E.2.2.2.1] at e1
    have gg := y_gf_tr (y_gf_kf e3) (y_gf_22 (q := 5) (x := nI (y_QL (y_set f9) cs).length) (by decide))
    obtain ⟨S', A, q1, q2, q3⟩ := M40c (L := L) (sl := sl) (val := val) hO hn hby hfl (y_Ec_gf E gg) hv6 ⟨fun q hq => by rw [z_upsK (by omega), e3.1 22 (by decide)]; exact hm.1 q hq, fun a i ha hy hi => by
      by_cases q : i = 5
      · rw [q, z_upsS, hv5]
      · rw [z_upsK q, e3.1 22 (by decide)]; exact hm.2 a i ha hy (by omega)⟩
    refine ⟨S', A, ?_, y_gf_tr gg q2, by rw [q3, z_ups_ne (by decide), e3.1 12 (by decide)]⟩
    simp only [g_18_3, g_8_0, o_16, z_bs, e1, s_22 (i := 5) rfl]
    exact q1
theorem M40 {f9 f10 f : Nat → Int32} (hc : c < 6) (hR : R 21 c = some o) (hO : y_To Dh R o) (hn : n ≤ 60) (hby : ∀ i, i < n → -128 ≤ (f i).toInt ∧ (f i).toInt ≤ 127) (hfl : ∀ val, y_flt f n val = none) (E : y_Ec ms ad cs ca st o n f9 f10 f Dh R nx S) (H : J_hit ms S) (hv4 : val 4 = (if (y_fst ms).1 < 601 then 1 else 0)) (hv5 : val 5 = nI (y_QL (y_set f9) cs).length) (hv6 : val 6 = y_v6 ms st (y_set f9) (y_set f10)) (hm : ∀ q, q < 4 → S 22 q = val q) : ∃ S' A, z_cI 62 40 [.inr (.inr (some 18)), .inl (nI c), .inr (.inr (some 8)), .inr (.inr (some 16))] (z_mk L Dh S R nx sl) = some (y_b (y_val f n val), z_mk L Dh (y_tc S' o A (-1)) (z_upR R o 4 (some 22)) nx sl) ∧ y_gf S S' ∧ J_hit ms S' := by
  have o87 := hO.1
  have hs := (y_shp (L := L) hO.1).trans hO.2.1
  have hM := M71 (L := L) (nx := nx) (sl := sl) E.2.2.2.2.2.2.2.2.2.1 hO hn E.2.2.2.2.2.2.2.2.2.2.1 (i := 4) (by omega)
  rw [E.2.2.2.2.2.2.2.2.2.2.2.1, E.2.2.2.2.2.2.2.2.2.1.2.2.2.2.2.1] at hM
  have hM : z_cI 5 71 [.inr (.inr (some o)), .inl (4 : Int32)] (z_mk L Dh S R nx sl) = some (y_b (y_mn f 104 n 0), z_mk L Dh S R nx sl) := hM
  have e40 : z_cI 62 40 [.inr (.inr (some 18)), .inl (nI c), .inr (.inr (some 8)), .inr (.inr (some 16))] (z_mk L Dh S R nx sl) = ((z_ob (z_mk L Dh S R nx sl) (some o) 9).bind fun _ => (z_cI 5 71 [.inr (.inr (some o)), .inl (4 : Int32)] (z_mk L Dh S R nx sl)).bind fun p4 => if p4.1 = (0 : Int32) then y_K5 o p4.2 else ((z_gR p4.2 (some 18) 6 3).bind fun x10 => (z_ob p4.2 (some 8) 7).bind fun _ => (z_cI 6 49 [.inr (.inr (some 8))] p4.2).bind fun p11 => if p11.1 = (0 : Int32) then ((z_stI p11.2 x10 (4 : Int32) (0 : Int32)).bind fun h12 => y_K5 o h12) else ((z_stI p11.2 x10 (4 : Int32) (1 : Int32)).bind fun h18 => y_K5 o h18))) := by
    rw [E40, g_18_1, z_bs, l_21 (z_in_nI hc (by decide)), z_cl (show c < 2147483648 by omega), hR, z_bs, z_nulS (show 6 ≤ o by omega), z_bs, if_neg (by decide)]
    rfl
  rw [e40, m_ob hs]
  simp only [z_bs, hM]
  cases hmn : y_mn f 104 n 0 with
  | false =>
    rw [if_pos (show y_b false = 0 from rfl)]
    obtain ⟨S', A, q1, q2, q3⟩ := M40b (L := L) (sl := sl) (val := val) hO hn hby hfl E hv5 hv6 ⟨hm, fun a i ha hy hi => by
      by_cases q : i = 4
      · exfalso
        rw [(y_mn_iff n 0).mpr ⟨a, by omega, by omega, (y_lt_ch hy).1 q⟩] at hmn
        cases hmn
      · exact hm i (by omega)⟩
    exact ⟨S', A, q1, q2, J_hit_fr H q3⟩
  | true =>
    rw [if_neg (show ¬ y_b true = 0 by decide)]
    obtain ⟨S1, e1, e2, e3, e4⟩ := M49 (L := L) (Dh := Dh) (R := R) (nx := nx) (sl := sl) E.1 H
    have gg := y_gf_tr (y_gf_qf e4) (y_gf_22 (q := 4) (x := val 4) (by decide))
    obtain ⟨S', A, q1, q2, q3⟩ := M40b (L := L) (sl := sl) (val := val) hO hn hby hfl (y_Ec_gf E gg) hv5 hv6 ⟨fun q hq => by rw [z_upsK (by omega), e4.1 22 (by decide) (by decide)]; exact hm q hq, fun a i ha hy hi => by
      by_cases q : i = 4
      · rw [q, z_upsS]
      · rw [z_upsK q, e4.1 22 (by decide) (by decide)]; exact hm i (by omega)⟩
    refine ⟨S', A, ?_, y_gf_tr gg q2, J_hit_fr e3 (by rw [q3, z_ups_ne (by decide)])⟩
    simp only [g_18_3, o_8, z_bs, e1, s_22 (i := 4) rfl]
    by_cases d : (y_fst ms).1 < 601
    · rw [if_pos d] at hv4 ⊢
      rw [hv4] at q1
      rw [if_neg (by decide)]
      exact q1
    · rw [if_neg d] at hv4 ⊢
      rw [hv4] at q1
      rw [if_pos rfl]
      exact q1
end ZTM
