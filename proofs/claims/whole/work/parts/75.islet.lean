section ZTJ
variable {L : Nat} {Dh : Nat → z_Sh} {S : Nat → Nat → Int32} {R : Nat → Nat → Option Nat} {nx sl : Nat}
variable {f : Nat → Int32} {n c : Nat} {val : Nat → Int32} {ms : List y_Mv} {ad : Nat → Nat} {cs : List y_Cm} {ca : Nat → Nat} {C V : Nat → Bool} {st kk : Nat}
theorem M180_t : ∀ (k : Nat), k ≤ 5 → ∀ (l a : Nat) (S : Nat → Nat → Int32) (al no : Bool) (x : Nat × Bool), l ≤ 5 - k → y_mx S c f n → y_Env ms ad cs ca C V st kk Dh R nx val S → a ≤ n → S 52 25 = nI a → S 70 l = y_b al → S 71 l = y_b no → y_tst f n val k a = .inr x → y_nd f n x.1 → y_v3 L Dh R nx sl c kk ms l S x.1 (fun S' => S' 70 l = y_b (al && (x.2 != no)) ∧ S' 69 l = S 69 l) := by
  intro k
  induction k with
  | zero =>
    intro hk l a S al no x hl h hE ha h25 h70 h71 hx hnd
    rw [y_tst_0] at hx
    by_cases c0 : a < n ∧ (f a = 33 ∨ f a = 40)
    · rw [if_pos c0] at hx; cases hx
    · rw [if_neg c0] at hx
      exact M180_c (by omega) h hE ha h25 h70 h71 hx hnd
  | succ k ih =>
    intro hk l a S al no x hl h hE ha h25 h70 h71 hx hnd
    obtain ⟨hc6, h60, h67, -, -⟩ := id h
    have hl7 : l < 7 := by omega
    have l1 : z_in (nI l) 7 = true := z_in_nI hl7 (by decide)
    have l2 : (nI l).toNatClampNeg = l := z_cl (by omega)
    rw [y_tst_s] at hx
    by_cases c1 : a < n ∧ f a = 33
    · rw [if_pos c1] at hx
      obtain ⟨T, hT⟩ : ∃ T, T = z_ups (z_ups S 71 l (y_b (!no))) 52 25 (nI (a + 1)) := ⟨_, rfl⟩
      have t25 : ∀ b : Int32, z_ups S 71 l b 52 25 = nI a := fun b => by rw [z_ups_ne (by decide)]; exact h25
      have e33 : L180_31 (some 52) (nI c) (nI l) (z_mk L Dh S R nx sl) = L180_31 (some 52) (nI c) (nI l) (z_mk L Dh T R nx sl) := by
        rw [E180_31]
        simp only [g_52_25, g_52_20, z_bs, h25, l_67 (z_in_nI hc6 (by decide)), z_cl (show c < 2147483648 by omega), h67]
        rw [if_neg (nI_ge c1.1 (by omega))]
        simp only [g_52_19, g_52_24, z_bs, y_mx_at h c1.1, c1.2, not_true, z_iF, l_71 l1, l2, h71, s_71 l1 (Or.inl rfl), s_71 l1 (Or.inr rfl), g_52_25, t25, p_52_25, nI_1]
        cases no
        · rw [if_neg (show ¬ ¬ y_b false = 0 from fun q => q rfl), hT]; rfl
        · rw [if_pos (show ¬ y_b true = 0 by decide), hT]; rfl
      have lT : y_lf S T := by rw [hT]; exact y_lf_tr (y_lf_w (by omega)) (y_uf_l y_uf_25)
      have eT : J_ed kk ms T := by rw [hT]; exact y_ed_25 (y_ed_w (by omega) hE.2.2.2.2.2.2.2.2.2)
      cases hr : y_tst f n val k (a + 1) with
      | inl p => rw [hr] at hx; cases hx
      | inr y =>
        rw [hr] at hx
        have hx : (y.1, !y.2) = x := Sum.inr.inj hx
        rw [← hx] at hnd ⊢
        obtain ⟨S', q1, q2, q3, q4, q5, q6, q7, q8⟩ := ih (by omega) l (a + 1) T al (!no) y (by omega) (y_mx_uf h lT) (y_Env_uf hE lT eT) (by omega) (by rw [hT, z_upsS]) (by rw [hT, z_ups_ne (by decide), z_ups_ne (by decide)]; exact h70) (by rw [hT, z_ups_ne (by decide), z_upsS]) hr hnd
        refine ⟨S', e33.trans q1, q2, q3, y_lw_tr (fun i hi => ⟨?_, ?_, ?_⟩) q4, y_lf_tr lT q5, q6, ?_, ?_⟩
        · rw [hT, z_ups_ne (by decide), z_ups_ne (by decide)]
        · rw [hT, z_ups_ne (by decide), z_ups_ne (by decide)]
        · rw [hT, z_ups_ne (by decide), z_upsK (by omega)]
        · rw [q7]
          show y_b (al && (y.2 != !no)) = y_b (al && ((!y.2) != no))
          cases y.2 <;> cases no <;> rfl
        · rw [q8, hT, z_ups_ne (by decide), z_ups_ne (by decide)]
    · rw [if_neg c1] at hx
      by_cases c2 : a < n ∧ f a = 40
      · rw [if_pos c2] at hx
        cases hr : y_os f n (y_tst f n val k) 61 false true (a + 1) with
        | inl p => rw [hr] at hx; cases hx
        | inr y =>
          rw [hr] at hx
          have hb := y_os_b f n (y_tst f n val k) (fun a ha => y_tst_b f n val k a ha) 61 false true (a + 1) (by omega)
          rw [hr] at hb
          have hx : (if y.1 < n ∧ f y.1 = 41 then .inr (y.1 + 1, y.2) else .inl y.1 : y_Rs Bool) = .inr x := hx
          by_cases c3 : y.1 < n ∧ f y.1 = 41
          · rw [if_pos c3] at hx
            have hx : (y.1 + 1, y.2) = x := Sum.inr.inj hx
            rw [← hx] at hnd ⊢
            have k1 : z_in (nI (l + 1)) 7 = true := z_in_nI (by omega) (by decide)
            have k2 : (nI (l + 1)).toNatClampNeg = l + 1 := z_cl (by omega)
            obtain ⟨T, hT⟩ : ∃ T, T = z_ups (z_ups (z_ups (z_ups S 69 (l + 1) 0) 70 (l + 1) 1) 71 (l + 1) 0) 52 25 (nI (a + 1)) := ⟨_, rfl⟩
            have t25 : z_ups (z_ups (z_ups S 69 (l + 1) 0) 70 (l + 1) 1) 71 (l + 1) 0 52 25 = nI a := by rw [z_ups_ne (by decide), z_ups_ne (by decide), z_ups_ne (by decide)]; exact h25
            have e40 : L180_31 (some 52) (nI c) (nI l) (z_mk L Dh S R nx sl) = L180_31 (some 52) (nI c) (nI (l + 1)) (z_mk L Dh T R nx sl) := by
              rw [E180_31]
              simp only [g_52_25, g_52_20, z_bs, h25, l_67 (z_in_nI hc6 (by decide)), z_cl (show c < 2147483648 by omega), h67]
              rw [if_neg (nI_ge c2.1 (by omega))]
              simp only [g_52_19, z_bs, y_mx_at h c2.1, c2.2, show ((40 : Int32) = 33) = False from eq_false (by decide), not_false_eq_true, not_true, z_iT, z_iF, o_52, nI_1, M179 (show l + 1 < 7 by omega), g_52_25, t25, p_52_25]
              rw [← hT]
            have lT : y_lf S T := by rw [hT]; exact y_lf_tr (y_lf_w (by omega)) (y_lf_tr (y_lf_w (by omega)) (y_lf_tr (y_lf_w (by omega)) (y_uf_l y_uf_25)))
            have eT : J_ed kk ms T := by rw [hT]; exact y_ed_25 (y_ed_w (by omega) (y_ed_w (by omega) (y_ed_w (by omega) hE.2.2.2.2.2.2.2.2.2)))
            have lowT : y_lw (l + 1) S T := fun i hi => ⟨by rw [hT, z_ups_ne (by decide), z_ups_ne (by decide), z_ups_ne (by decide), z_upsK (by omega)], by rw [hT, z_ups_ne (by decide), z_ups_ne (by decide), z_upsK (by omega), z_ups_ne (by decide)], by rw [hT, z_ups_ne (by decide), z_upsK (by omega), z_ups_ne (by decide), z_ups_ne (by decide)]⟩
            obtain ⟨S', q1, q2, q3, q4, q5, q6, an', al', p1, p2, p3⟩ := M180_o (L := L) (sl := sl) (k := k) (fun l a S al no x => ih (by omega) l a S al no x) 61 false true (l + 1) (a + 1) T y (by omega) (y_mx_uf h lT) (y_Env_uf hE lT eT) (by omega) (by rw [hT, z_upsS]) (by rw [hT, z_ups_ne (by decide), z_ups_ne (by decide), z_ups_ne (by decide), z_upsS]; rfl) (by rw [hT, z_ups_ne (by decide), z_ups_ne (by decide), z_upsS]; rfl) (by rw [hT, z_ups_ne (by decide), z_upsS]) hr (Or.inr ⟨c3.1, by rw [c3.2]; rfl⟩)
            have h' := y_mx_uf h (y_lf_tr lT q5)
            have low := q4 l (by omega)
            have lowt := lowT l (by omega)
            have s70 : S' 70 l = y_b al := by rw [low.2.1, lowt.2.1]; exact h70
            have s71 : S' 71 l = y_b no := by rw [low.2.2, lowt.2.2]; exact h71
            have e178 := fun v => M178 (L := L) (Dh := Dh) (R := R) (nx := nx) (sl := sl) hl7 (v := v) s70 s71
            obtain ⟨U, hU⟩ : ∃ U, U = z_ups (z_ups (z_ups S' 70 l (y_b (al && (y.2 != no)))) 71 l 0) 52 25 (nI (y.1 + 1)) := ⟨_, rfl⟩
            have u25 : ∀ b : Int32, z_ups (z_ups S' 70 l b) 71 l 0 52 25 = nI y.1 := fun b => by rw [z_ups_ne (by decide), z_ups_ne (by decide)]; exact q2
            have e41 : L180_31 (some 52) (nI c) (nI (l + 1)) (z_mk L Dh S' R nx sl) = L180_31 (some 52) (nI c) (nI l) (z_mk L Dh U R nx sl) := by
              have v1 : z_cV 1 178 [.inr (.inr (some 52)), .inl (nI l), .inl (1 : Int32)] (z_mk L Dh S' R nx sl) = _ := e178 true
              have v0 : z_cV 1 178 [.inr (.inr (some 52)), .inl (nI l), .inl (0 : Int32)] (z_mk L Dh S' R nx sl) = _ := e178 false
              rw [E180_31]
              simp only [g_52_25, g_52_20, z_bs, q2, l_67 (z_in_nI hc6 (by decide)), z_cl (show c < 2147483648 by omega), h'.2.2.1]
              rw [if_neg (nI_ge c3.1 (by omega))]
              simp only [g_52_19, g_52_22, g_52_23, z_bs, y_mx_at h' c3.1, c3.2, show ((41 : Int32) = 33) = False from eq_false (by decide), show ((41 : Int32) = 40) = False from eq_false (by decide), not_false_eq_true, not_true, z_iT, z_iF, y_m1s, nI_1, l_69 k1, l_70 k1, k2, p1, p2, o_52, v1, v0, g_52_25, u25, p_52_25]
              cases ha' : an' with
              | true =>
                rw [ha', Bool.true_or] at p3
                rw [if_pos (show ¬ y_b true = 0 by decide), hU, ← p3]
              | false =>
                rw [ha', Bool.false_or] at p3
                rw [if_neg (show ¬ ¬ y_b false = 0 from fun q => q rfl), hU, ← p3]
                cases al'
                · rw [if_pos (show y_b false = 0 from rfl)]
                · rw [if_neg (show ¬ y_b true = 0 by decide)]
            refine ⟨U, e40.trans (q1.trans e41), by rw [hU, z_upsS], by rw [hU, z_ups_ne (by decide), z_upsS], fun i hi => ?_, y_lf_tr lT (y_lf_tr q5 (by rw [hU]; exact y_lf_tr (y_lf_w (by omega)) (y_lf_tr (y_lf_w (by omega)) (y_uf_l y_uf_25)))), by rw [hU]; exact y_ed_25 (y_ed_w (by omega) (y_ed_w (by omega) q6)), ?_, ?_⟩
            · have b1 := q4 i (by omega)
              have b2 := lowT i (by omega)
              refine ⟨?_, ?_, ?_⟩
              · rw [hU, z_ups_ne (by decide), z_ups_ne (by decide), z_ups_ne (by decide), b1.1, b2.1]
              · rw [hU, z_ups_ne (by decide), z_ups_ne (by decide), z_upsK (by omega), b1.2.1, b2.2.1]
              · rw [hU, z_ups_ne (by decide), z_upsK (by omega), z_ups_ne (by decide), b1.2.2, b2.2.2]
            · rw [hU, z_ups_ne (by decide), z_ups_ne (by decide), z_upsS]
            · rw [hU, z_ups_ne (by decide), z_ups_ne (by decide), z_ups_ne (by decide), low.1, lowt.1]
          · rw [if_neg c3] at hx; cases hx
      · rw [if_neg c2] at hx
        exact M180_c (by omega) h hE ha h25 h70 h71 hx hnd
theorem M180 (hn1 : 1 ≤ n) (h : y_mx S c f n) (hE : y_Env ms ad cs ca C V st kk Dh R nx val S) (hfl : y_flt f n val = none) : ∃ S', z_cI 10 180 [.inr (.inr (some 52)), .inl (nI c)] (z_mk L Dh S R nx sl) = some (y_b (y_val f n val), z_mk L Dh S' R nx sl) ∧ y_lf S S' ∧ J_ed kk ms S' := by
  obtain ⟨hc6, h60, h67, -, -⟩ := id h
  have hb := y_os_b f n (y_tst f n val 5) (fun a ha => y_tst_b f n val 5 a ha) 61 false true 0 (by omega)
  unfold y_flt y_all at hfl
  cases hr : y_os f n (y_tst f n val 5) 61 false true 0 with
  | inl p => rw [hr] at hfl; cases hfl
  | inr x =>
    rw [hr] at hfl hb
    have hfl : (if x.1 < n then some x.1 else none) = none := hfl
    have hxn : x.1 = n := by
      by_cases w : x.1 < n
      · rw [if_pos w] at hfl; cases hfl
      · have := hb.2; omega
    have hval : y_val f n val = x.2 := by unfold y_val y_all; rw [hr]
    obtain ⟨T, hT⟩ : ∃ T, T = z_ups (z_ups (z_ups (z_ups S 69 0 0) 70 0 1) 71 0 0) 52 25 0 := ⟨_, rfl⟩
    have lT : y_lf S T := by rw [hT]; exact y_lf_tr (y_lf_w (by omega)) (y_lf_tr (y_lf_w (by omega)) (y_lf_tr (y_lf_w (by omega)) (y_uf_l y_uf_25)))
    have eT : J_ed kk ms T := by rw [hT]; exact y_ed_25 (y_ed_w (by omega) (y_ed_w (by omega) (y_ed_w (by omega) hE.2.2.2.2.2.2.2.2.2)))
    obtain ⟨S', q1, q2, q3, q4, q5, q6, an', al', p1, p2, p3⟩ := M180_o (L := L) (sl := sl) (k := 5) (fun l a S al no x => M180_t 5 (by omega) l a S al no x) 61 false true 0 0 T x (by omega) (y_mx_uf h lT) (y_Env_uf hE lT eT) (by omega) (by rw [hT, z_upsS]; rfl) (by rw [hT, z_ups_ne (by decide), z_ups_ne (by decide), z_ups_ne (by decide), z_upsS]; rfl) (by rw [hT, z_ups_ne (by decide), z_ups_ne (by decide), z_upsS]; rfl) (by rw [hT, z_ups_ne (by decide), z_upsS]) hr (Or.inl hxn)
    have h' := y_mx_uf h (y_lf_tr lT q5)
    refine ⟨S', ?_, y_lf_tr lT q5, q6⟩
    have e0 : z_cI 10 180 [.inr (.inr (some 52)), .inl (nI c)] (z_mk L Dh S R nx sl) = L180_31 (some 52) (nI c) (nI 0) (z_mk L Dh T R nx sl) := by
      have m179 : z_cV 1 179 [.inr (.inr (some 52)), .inl (0 : Int32)] (z_mk L Dh S R nx sl) = some (z_mk L Dh (z_ups (z_ups (z_ups S 69 0 0) 70 0 1) 71 0 0) R nx sl) := M179 (l := 0) (by decide)
      rw [E180]
      simp only [g_52_20, z_bs, l_67 (z_in_nI hc6 (by decide)), z_cl (show c < 2147483648 by omega), h67]
      rw [if_pos (nI_ne0 (by omega) (by omega))]
      simp only [o_52, z_bs, m179, p_52_25]
      rw [← hT]
      rfl
    rw [e0, q1, E180_31]
    rw [hxn] at q2
    simp only [g_52_25, g_52_20, z_bs, q2, l_67 (z_in_nI hc6 (by decide)), z_cl (show c < 2147483648 by omega), h'.2.2.1]
    rw [if_pos (nI_le (Nat.le_refl _) (by omega))]
    simp only [g_52_22, g_52_23, z_bs, l_69 (i := 0) rfl, l_70 (i := 0) rfl]
    rw [show S' 69 (Int32.toNatClampNeg 0) = y_b an' from p1, show S' 70 (Int32.toNatClampNeg 0) = y_b al' from p2, hval, ← p3]
    cases an'
    · rw [if_neg (show ¬ ¬ y_b false = 0 from fun q => q rfl)]
      cases al'
      · rw [if_pos (show y_b false = 0 from rfl)]; rfl
      · rw [if_neg (show ¬ y_b true = 0 by decide)]; rfl
    · rw [if_pos (show ¬ y_b true = 0 by decide)]; rfl
end ZTJ
