section ZTL
variable {L : Nat} {Dh : Nat → z_Sh} {S : Nat → Nat → Int32} {R : Nat → Nat → Option Nat} {nx sl : Nat}
variable {n c o : Nat} {val : Nat → Int32} {ms : List y_Mv} {ad : Nat → Nat} {cs : List y_Cm} {ca : Nat → Nat} {st kk : Nat} {tx : Nat → Option (Nat × Nat)}
/-! the class reckons a text -/
noncomputable def y_K5 (o : Nat) (h : z_H) : Option (Int32 × z_H) := (z_ob h (some o) 9).bind fun _ => (z_cI 5 71 [.inr (.inr (some o)), .inl (5 : Int32)] h).bind fun p5 => if p5.1 = (0 : Int32) then (L40_73 (some 18) (some 8) (some o) p5.2) else ((z_gR p5.2 (some 18) 6 3).bind fun x6 => (z_gR p5.2 (some 8) 7 0).bind fun x7 => (z_ob p5.2 (some 16) 2).bind fun _ => (z_cI 6 15 [.inr (.inr (some 16)), .inr (.inr x7)] p5.2).bind fun p8 => (z_stI p8.2 x6 (5 : Int32) p8.1).bind fun h9 => L40_73 (some 18) (some 8) (some o) h9)
/-- what the class may write while it reckons -/
def y_gf (S S' : Nat → Nat → Int32) : Prop := (∀ b, b ≠ 8 → (b < 12 ∨ 16 < b) → b ≠ 22 → S' b = S b) ∧ (∀ q, q ≠ 6 → q ≠ 7 → q ≠ 8 → S' 8 q = S 8 q) ∧ (∀ q, q ≠ 2 → q ≠ 3 → S' 16 q = S 16 q) ∧ (∀ q, q < 4 → S' 22 q = S 22 q)
theorem y_gf_id : y_gf S S := ⟨fun _ _ _ _ => rfl, fun _ _ _ _ => rfl, fun _ _ _ => rfl, fun _ _ => rfl⟩
theorem y_gf_tr {S1 S2 : Nat → Nat → Int32} (h1 : y_gf S S1) (h2 : y_gf S1 S2) : y_gf S S2 := ⟨fun b x y z => (h2.1 b x y z).trans (h1.1 b x y z), fun q x y z => (h2.2.1 q x y z).trans (h1.2.1 q x y z), fun q x y => (h2.2.2.1 q x y).trans (h1.2.2.1 q x y), fun q x => (h2.2.2.2 q x).trans (h1.2.2.2 q x)⟩
theorem y_gf_22 {q : Nat} {x : Int32} (hq : 4 ≤ q) : y_gf S (z_ups S 22 q x) := ⟨fun b _ _ z => z_ups_ne z, fun _ _ _ _ => by rw [z_ups_ne (by decide)], fun _ _ _ => by rw [z_ups_ne (by decide)], fun p hp => z_upsK (by omega)⟩
theorem y_gf_qf {S' : Nat → Nat → Int32} (h : y_qf S S') : y_gf S S' := ⟨fun b x y z => h.1 b (by omega) x, fun q x y z => h.2 q x y z, fun q _ _ => by rw [h.1 16 (by decide) (by decide)], fun q _ => by rw [h.1 22 (by decide) (by decide)]⟩
theorem y_gf_kf {S' : Nat → Nat → Int32} (h : y_kf S S') : y_gf S S' := ⟨fun b x y z => h.1 b (by omega), fun q _ _ _ => by rw [h.1 8 (by decide)], fun q x y => h.2 q x y, fun q _ => by rw [h.1 22 (by decide)]⟩
theorem y_gf_ef {S' : Nat → Nat → Int32} (h : y_ef S S') : y_gf S S' := ⟨fun b x y z => h b (by omega) (by omega) (by omega), fun q _ _ _ => by rw [h 8 (by decide) (by decide) (by decide)], fun q _ _ => by rw [h 16 (by decide) (by decide) (by decide)], fun q _ => by rw [h 22 (by decide) (by decide) (by decide)]⟩
/-- what the class needs while it reckons -/
def y_Ec (ms : List y_Mv) (ad : Nat → Nat) (cs : List y_Cm) (ca : Nat → Nat) (st o n : Nat) (f9 f10 f : Nat → Int32) (Dh : Nat → z_Sh) (R : Nat → Nat → Option Nat) (nx : Nat) (S : Nat → Nat → Int32) : Prop := J_mov ms ad Dh S R nx ∧ J_cam cs ca Dh S R nx ∧ I_dir S ∧ S 9 = f9 ∧ S 10 = f10 ∧ (∀ y j, y < 20 → 20 ≤ j → z_bt (f9 y) j = false) ∧ (∀ y j, y < 20 → 20 ≤ j → z_bt (f10 y) j = false) ∧ S 8 4 = nI st ∧ st ≤ 20 ∧ I_let S ∧ S o 1 = nI n ∧ S (o + 1) = f ∧ 87 ≤ o
theorem y_Ec_gf {f9 f10 f : Nat → Int32} {S' : Nat → Nat → Int32} (h : y_Ec ms ad cs ca st o n f9 f10 f Dh R nx S) (e : y_gf S S') : y_Ec ms ad cs ca st o n f9 f10 f Dh R nx S' := by
  obtain ⟨h1, h2, h3, h4, h5, h6, h7, h8, h9, h10, h11, h12, h13⟩ := h
  refine ⟨J_mov_fr h1 ⟨e.2.1 3 (by decide) (by decide) (by decide), by rw [e.1 52 (by decide) (by omega) (by decide)], e.1 55 (by decide) (by omega) (by decide), e.1 56 (by decide) (by omega) (by decide), e.1 57 (by decide) (by omega) (by decide), e.1 58 (by decide) (by omega) (by decide), e.1 59 (by decide) (by omega) (by decide), e.1 60 (by decide) (by omega) (by decide), e.1 61 (by decide) (by omega) (by decide), e.1 62 (by decide) (by omega) (by decide), fun b hb => e.1 b (by omega) (by omega) (by omega)⟩, J_cam_fr h2 (e.2.2.1 1 (by decide) (by decide)) (by rw [e.1 52 (by decide) (by omega) (by decide)]) (e.1 63 (by decide) (by omega) (by decide)) rfl (Nat.le_refl _) (fun b hb _ _ => ⟨rfl, e.1 b (by omega) (by omega) (by omega)⟩), I_dir_fr h3 ⟨e.1 1 (by decide) (by omega) (by decide), e.1 2 (by decide) (by omega) (by decide)⟩, (e.1 9 (by decide) (by omega) (by decide)).trans h4, (e.1 10 (by decide) (by omega) (by decide)).trans h5, h6, h7, (e.2.1 4 (by decide) (by decide) (by decide)).trans h8, h9, ?_, by rw [e.1 o (by omega) (by omega) (by omega)]; exact h11, (e.1 (o + 1) (by omega) (by omega) (by omega)).trans h12, h13⟩
  unfold I_let
  rw [e.1 3 (by decide) (by omega) (by decide), e.1 4 (by decide) (by omega) (by decide)]
  exact h10
theorem y_Xo (hO : y_To Dh R o) : y_Tx L Dh (z_upR R o 4 (some 22)) nx sl o (o + 1) := by
  obtain ⟨o1, o2, oB, oC⟩ := hO
  have hs := (y_shp (L := L) o1).trans o2
  refine ⟨fun S => m_ob hs, fun S => ?_, fun S => m_gI hs rfl (by decide), fun S => m_gI hs rfl (by decide), fun S => m_gI hs rfl (by decide), fun S x => m_pI hs rfl (by decide) (Or.inl rfl), fun S x => m_pI hs rfl (by decide) (Or.inl rfl), fun S x => m_pI hs rfl (by decide) (Or.inl rfl), fun S i hi => ?_, fun S => ?_, by omega, by omega, by omega, by omega⟩
  · rw [m_gR hs rfl]
    have : z_upR R o 4 (some 22) o 0 = R o 0 := by unfold z_upR z_upr; rw [if_pos rfl, if_neg (by decide)]
    rw [this, oC]
  · rw [m_ldB ((y_shp (by omega)).trans oB) (Or.inr (Or.inl rfl)) (z_in_nI hi (by decide)), z_cl (by omega)]
  · rw [m_gR hs rfl]
    have : z_upR R o 4 (some 22) o 4 = some 22 := by unfold z_upR z_upr; rw [if_pos rfl, if_pos rfl]
    rw [this]
def y_v6 (ms : List y_Mv) (st : Nat) (C V : Nat → Bool) : Int32 := match ms with
  | [] => 0
  | m :: _ => nI (y_lost ms m.2.2.2.1 st C V ms)
/-- mentioned values are right -/
def y_mr (S : Nat → Nat → Int32) (f : Nat → Int32) (n : Nat) (val : Nat → Int32) (lo : Nat) : Prop := (∀ q, q < 4 → S 22 q = val q) ∧ ∀ a i, a < n → y_lt (f a) = some i → i < lo → S 22 i = val i
theorem M40c {f9 f10 f : Nat → Int32} (hO : y_To Dh R o) (hn : n ≤ 60) (hby : ∀ i, i < n → -128 ≤ (f i).toInt ∧ (f i).toInt ≤ 127) (hfl : ∀ val, y_flt f n val = none) (E : y_Ec ms ad cs ca st o n f9 f10 f Dh R nx S) (hv6 : val 6 = y_v6 ms st (y_set f9) (y_set f10)) (hm : y_mr S f n val 6) : ∃ S' A, L40_73 (some 18) (some 8) (some o) (z_mk L Dh S R nx sl) = some (y_b (y_val f n val), z_mk L Dh (y_tc S' o A (-1)) (z_upR R o 4 (some 22)) nx sl) ∧ y_gf S S' ∧ S' 12 = S 12 := by
  have hs := (y_shp (L := L) hO.1).trans hO.2.1
  have hM := M71 (L := L) (nx := nx) (sl := sl) E.2.2.2.2.2.2.2.2.2.1 hO hn E.2.2.2.2.2.2.2.2.2.2.1 (i := 6) (by omega)
  rw [E.2.2.2.2.2.2.2.2.2.2.2.1, E.2.2.2.2.2.2.2.2.2.1.2.2.2.2.2.2.2] at hM
  have hM : z_cI 5 71 [.inr (.inr (some o)), .inl (6 : Int32)] (z_mk L Dh S R nx sl) = some (y_b (y_mn f 98 n 0), z_mk L Dh S R nx sl) := hM
  -- the end: the text is read with these values
  have fin : ∀ S1, y_gf S S1 → y_mr S1 f n val 7 → ∃ A, ((z_gR (z_mk L Dh S1 R nx sl) (some 18) 6 3).bind fun x2 => (z_ob (z_mk L Dh S1 R nx sl) (some o) 9).bind fun _ => (z_cI 61 72 [.inr (.inr (some o)), .inr (.inr x2)] (z_mk L Dh S1 R nx sl)).bind fun p3 => if p3.1 = 0 ∨ p3.1 = 1 then some (p3.1, p3.2) else none) = some (y_b (y_val f n val), z_mk L Dh (y_tc S1 o A (-1)) (z_upR R o 4 (some 22)) nx sl) := fun S1 g1 m1 => by
    have E1 := y_Ec_gf E g1
    have B : y_Tb S1 o (o + 1) f n (fun i => S1 22 i) := ⟨E1.2.2.2.2.2.2.2.2.2.2.1, hn, fun i _ => by rw [E1.2.2.2.2.2.2.2.2.2.2.2.1], hby, fun _ _ => rfl, E1.2.2.2.2.2.2.2.2.2.1⟩
    obtain ⟨A, e⟩ := M72 (L := L) (Dh := Dh) (nx := nx) (sl := sl) (R0 := R) (fun S => m_pR hs rfl) (y_Xo hO) B
    refine ⟨A, ?_⟩
    have hval : y_val f n (fun i => S1 22 i) = y_val f n val := y_val_v (fun a i ha hy => m1.2 a i ha hy (y_lti_some hy))
    rw [hfl, hval] at e
    have e' : z_cI 61 72 [.inr (.inr (some o)), .inr (.inr (some 22))] (z_mk L Dh S1 R nx sl) = some (y_b (y_val f n val), z_mk L Dh (y_tc S1 o A (-1)) (z_upR R o 4 (some 22)) nx sl) := by
      rw [e]
      unfold y_b
      cases y_val f n val <;> rfl
    simp only [g_18_3, z_bs, m_ob hs, e']
    exact if_pos (y_b01 _)
  rw [E40_73]
  simp only [m_ob hs, z_bs, hM]
  cases hmn : y_mn f 98 n 0 with
  | false =>
    rw [if_pos (show y_b false = 0 from rfl)]
    obtain ⟨A, e⟩ := fin S y_gf_id ⟨hm.1, fun a i ha hy hi => by
      by_cases q : i = 6
      · exfalso
        subst q
        have hf : f a = 98 := by
          unfold y_lt at hy
          by_cases c0 : f a = 119
          · rw [if_pos c0] at hy; cases hy
          · rw [if_neg c0] at hy
            by_cases c1 : f a = 103
            · rw [if_pos c1] at hy; cases hy
            · rw [if_neg c1] at hy
              by_cases c2 : f a = 115
              · rw [if_pos c2] at hy; cases hy
              · rw [if_neg c2] at hy
                by_cases c3 : f a = 116
                · rw [if_pos c3] at hy; cases hy
                · rw [if_neg c3] at hy
                  by_cases c4 : f a = 104
                  · rw [if_pos c4] at hy; cases hy
                  · rw [if_neg c4] at hy
                    by_cases c5 : f a = 113
                    · rw [if_pos c5] at hy; cases hy
                    · rw [if_neg c5] at hy
                      by_cases c6 : f a = 98
                      · exact c6
                      · rw [if_neg c6] at hy; cases hy
        rw [(y_mn_iff n 0).mpr ⟨a, by omega, by omega, hf⟩] at hmn
        cases hmn
      · exact hm.2 a i ha hy (by omega)⟩
    simp only [m_ob hs, z_bs] at e
    exact ⟨S, A, e, y_gf_id, rfl⟩
  | true =>
    rw [if_neg (show ¬ y_b true = 0 by decide)]
    simp only [o_8, z_bs]
    have mr7 : ∀ S1, y_gf S S1 → (∀ q, q < 6 → S1 22 q = S 22 q) → S1 22 6 = val 6 → y_mr S1 f n val 7 := fun S1 _ g2 g3 => ⟨fun q hq => by rw [g2 q (by omega)]; exact hm.1 q hq, fun a i ha hy hi => by
      by_cases q : i = 6
      · rw [q]; exact g3
      · rw [g2 i (by omega)]; exact hm.2 a i ha hy (by omega)⟩
    cases hms : ms with
    | nil =>
      have hv6 : val 6 = 0 := by rw [hv6, hms]; rfl
      have J0 : J_mov [] ad Dh S R nx := by rw [← hms]; exact E.1
      have h43 : z_cR 1 43 [.inr (.inr (some 8)), .inl (0 : Int32)] (z_mk L Dh S R nx sl) = some (none, z_mk L Dh S R nx sl) := M43x J0 (Or.inr (by decide))
      simp only [h43, g_18_3, z_bs, z_nulN, z_tt, z_iT, s_22 (i := 6) rfl]
      have hz : (6 : Int32).toNatClampNeg = 6 := rfl
      rw [hz]
      obtain ⟨A, e⟩ := fin (z_ups S 22 6 0) (y_gf_22 (by decide)) (mr7 _ (y_gf_22 (by decide)) (fun q hq => z_upsK (by omega)) (by rw [z_upsS, hv6]))
      simp only [g_18_3, z_bs] at e
      exact ⟨z_ups S 22 6 0, A, e, y_gf_22 (by decide), by rw [z_ups_ne (by decide)]⟩
    | cons m r =>
      have hl0 : 0 < ms.length := by rw [hms]; exact Nat.succ_pos _
      have hm0 : ms[0] = m := by simp only [hms]; rfl
      obtain ⟨k1, k2, k3, k4, k5⟩ := E.1.2.2.2.1 0 hl0
      rw [hm0] at k3 k4
      have a87 := k4.1.1
      have h43 : z_cR 1 43 [.inr (.inr (some 8)), .inl (0 : Int32)] (z_mk L Dh S R nx sl) = some (some (ad 0), z_mk L Dh S R nx sl) := M43n E.1 hl0
      have hC : y_rows (S 9) (y_set f9) := ⟨fun q _ => by rw [E.2.2.2.1]; rfl, by rw [E.2.2.2.1]; exact E.2.2.2.2.2.1⟩
      have hV : y_rows (S 10) (y_set f10) := ⟨fun q _ => by rw [E.2.2.2.2.1]; rfl, by rw [E.2.2.2.2.1]; exact E.2.2.2.2.2.2.1⟩
      obtain ⟨S1, g1, g2⟩ := M51 (L := L) (sl := sl) k3.2.2.2.1 E.2.2.2.2.2.2.2.2.1 E.1 E.2.2.2.2.2.2.2.1 hC hV
      have v6' : val 6 = nI (y_lost ms m.2.2.2.1 st (y_set f9) (y_set f10) ms) := by rw [hv6, hms]; rfl
      simp only [h43, g_18_3, z_bs, z_nulS (show 6 ≤ ad 0 by omega), z_ff, z_iF, y_g3 k4.1, k4.2.2.2.2.1, o_8, g1, s_22 (i := 6) rfl]
      have hz : (6 : Int32).toNatClampNeg = 6 := rfl
      rw [hz]
      have gg := y_gf_tr (y_gf_ef g2) (y_gf_22 (q := 6) (x := nI (y_lost ms m.2.2.2.1 st (y_set f9) (y_set f10) ms)) (by decide))
      obtain ⟨A, e⟩ := fin (z_ups S1 22 6 (nI (y_lost ms m.2.2.2.1 st (y_set f9) (y_set f10) ms))) gg (mr7 _ gg (fun q hq => by rw [z_upsK (by omega), g2 22 (by decide) (by decide) (by decide)]) (by rw [z_upsS, v6']))
      simp only [g_18_3, z_bs] at e
      exact ⟨_, A, e, gg, by rw [z_ups_ne (by decide), g2 12 (by decide) (by decide) (by decide)]⟩
end ZTL
