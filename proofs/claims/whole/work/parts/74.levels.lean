section ZTI
variable {L : Nat} {Dh : Nat → z_Sh} {S : Nat → Nat → Int32} {R : Nat → Nat → Option Nat} {nx sl : Nat}
variable {f : Nat → Int32} {n c : Nat} {val : Nat → Int32} {ms : List y_Mv} {ad : Nat → Nat} {cs : List y_Cm} {ca : Nat → Nat} {C V : Nat → Bool} {st kk : Nat}
def y_b (b : Bool) : Int32 := if b = true then 1 else 0
theorem y_b01 (b : Bool) : y_b b = 0 ∨ y_b b = 1 := by cases b <;> simp [y_b]
theorem M177 (h : y_mx S c f n) (hE : y_Env ms ad cs ca C V st kk Dh R nx val S) {a : Nat} (ha : a ≤ n) (h25 : S 52 25 = nI a) {x : Nat × Bool} (hx : y_cpr f n val a = .inr x) (hnd : y_nd f n x.1) : ∃ S', z_cI 9 177 [.inr (.inr (some 52)), .inl (nI c)] (z_mk L Dh S R nx sl) = some (y_b x.2, z_mk L Dh S' R nx sl) ∧ S' 52 25 = nI x.1 ∧ y_uf S S' ∧ J_ed kk ms S' := by
  have hb := y_unt_b f n val a ha
  unfold y_cpr at hx
  cases hu : y_unt f n val a with
  | inl p => rw [hu] at hx; cases hx
  | inr u =>
    rw [hu] at hx hb
    obtain ⟨w1, w2⟩ := hb
    have hx : (if u.1 < n ∧ y_sg (f u.1) = true then (match y_unt f n val (u.1 + 1) with | .inl p => .inl p | .inr y => .inr (y.1, y_cmv (f u.1) u.2 y.2)) else .inl u.1 : y_Rs Bool) = .inr x := hx
    by_cases c1 : u.1 < n ∧ y_sg (f u.1) = true
    · rw [if_pos c1] at hx
      have sgs : f u.1 = 60 ∨ f u.1 = 61 ∨ f u.1 = 62 := by
        have := c1.2
        unfold y_sg at this
        rw [Bool.or_eq_true, Bool.or_eq_true, decide_eq_true_iff, decide_eq_true_iff, decide_eq_true_iff] at this
        rcases this with (q | q) | q
        · exact Or.inl q
        · exact Or.inr (Or.inl q)
        · exact Or.inr (Or.inr q)
      have nd1 : y_nd f n u.1 := Or.inr ⟨c1.1, by rcases sgs with q | q | q <;> rw [q] <;> rfl⟩
      obtain ⟨S1, e1, e2, e3, e4⟩ := M176 (L := L) (sl := sl) h hE ha h25 hu nd1
      have h1 := y_mx_uf h (y_uf_l e3)
      have E1 := y_Env_uf hE (y_uf_l e3) e4
      have h2 : y_mx (z_ups S1 52 25 (nI (u.1 + 1))) c f n := y_mx_uf h1 (y_uf_l y_uf_25)
      have E2 := y_Env_uf E1 (y_uf_l y_uf_25) (y_ed_25 (x := nI (u.1 + 1)) e4)
      cases hv : y_unt f n val (u.1 + 1) with
      | inl p => rw [hv] at hx; cases hx
      | inr y =>
        rw [hv] at hx
        have hx : (y.1, y_cmv (f u.1) u.2 y.2) = x := Sum.inr.inj hx
        rw [← hx] at hnd ⊢
        obtain ⟨S2, g1, g2, g3, g4⟩ := M176 (L := L) (sl := sl) h2 E2 (show u.1 + 1 ≤ n by omega) z_upsS hv hnd
        refine ⟨S2, ?_, g2, y_uf_tr e3 (y_uf_tr y_uf_25 g3), g4⟩
        rw [E177]
        simp only [o_52, z_bs, e1, g_52_19, g_52_25, e2, y_mx_at h1 c1.1, p_52_25, nI_1, g1]
        unfold y_cmv y_b
        rcases sgs with q | q | q
        · rw [q, if_neg (fun w => w rfl), if_pos rfl]
          by_cases d : u.2 < y.2
          · rw [if_neg (Int32.not_le.mpr d), if_pos (decide_eq_true d)]
          · rw [if_pos (Int32.not_lt.mp d), if_neg (by rw [decide_eq_false d]; decide)]
        · rw [q, if_pos (show ¬ (61 : Int32) = 60 by decide), if_neg (fun w => w rfl), if_neg (show ¬ (61 : Int32) = 60 by decide), if_pos rfl]
          by_cases d : u.2 = y.2
          · rw [if_neg (fun w => w d), if_pos (decide_eq_true d)]
          · rw [if_pos d, if_neg (by rw [decide_eq_false d]; decide)]
        · rw [q, if_pos (show ¬ (62 : Int32) = 60 by decide), if_pos (show ¬ (62 : Int32) = 61 by decide), if_neg (show ¬ (62 : Int32) = 60 by decide), if_neg (show ¬ (62 : Int32) = 61 by decide)]
          by_cases d : y.2 < u.2
          · rw [if_neg (Int32.not_le.mpr d), if_pos (decide_eq_true d)]
          · rw [if_pos (Int32.not_lt.mp d), if_neg (by rw [decide_eq_false d]; decide)]
    · rw [if_neg c1] at hx; cases hx
theorem M178 {l : Nat} (hl : l < 7) {al no v : Bool} (h70 : S 70 l = y_b al) (h71 : S 71 l = y_b no) : z_cV 1 178 [.inr (.inr (some 52)), .inl (nI l), .inl (y_b v)] (z_mk L Dh S R nx sl) = some (z_mk L Dh (z_ups (z_ups S 70 l (y_b (al && (v != no)))) 71 l 0) R nx sl) := by
  have l1 : z_in (nI l) 7 = true := z_in_nI hl (by decide)
  have l2 : (nI l).toNatClampNeg = l := z_cl (by omega)
  rw [E178]
  simp only [g_52_23, g_52_24, z_bs, l_70 l1, l_71 l1, l2, h70, h71, s_70 l1 (Or.inl rfl), s_70 l1 (Or.inr rfl), s_71 l1 (Or.inl rfl)]
  cases al <;> cases no <;> cases v <;> rfl
theorem M179 {l : Nat} (hl : l < 7) : z_cV 1 179 [.inr (.inr (some 52)), .inl (nI l)] (z_mk L Dh S R nx sl) = some (z_mk L Dh (z_ups (z_ups (z_ups S 69 l 0) 70 l 1) 71 l 0) R nx sl) := by
  have l1 : z_in (nI l) 7 = true := z_in_nI hl (by decide)
  have l2 : (nI l).toNatClampNeg = l := z_cl (by omega)
  rw [E179]
  simp only [g_52_22, g_52_23, g_52_24, z_bs, l2, s_69 l1 (Or.inl rfl), s_70 l1 (Or.inr rfl), s_71 l1 (Or.inl rfl)]
/-- levels below stay -/
def y_lw (l : Nat) (S S' : Nat → Nat → Int32) : Prop := ∀ i, i < l → S' 69 i = S 69 i ∧ S' 70 i = S 70 i ∧ S' 71 i = S 71 i
theorem y_lw_tr {l : Nat} {S1 S2 : Nat → Nat → Int32} (h1 : y_lw l S S1) (h2 : y_lw l S1 S2) : y_lw l S S2 := fun i hi => ⟨(h2 i hi).1.trans (h1 i hi).1, (h2 i hi).2.1.trans (h1 i hi).2.1, (h2 i hi).2.2.trans (h1 i hi).2.2⟩
theorem y_lf_w {b l : Nat} {x : Int32} (hb : b = 69 ∨ b = 70 ∨ b = 71) : y_lf S (z_ups S b l x) := ⟨fun d _ y => z_ups_ne (by omega), fun q _ _ _ => by rw [z_ups_ne (by omega)]⟩
theorem y_ed_w {b l : Nat} {x : Int32} (hb : b = 69 ∨ b = 70 ∨ b = 71) (h : J_ed kk ms S) : J_ed kk ms (z_ups S b l x) := by
  obtain ⟨e, h1, h2, h3, h4⟩ := h
  refine ⟨e, h1, ?_, ?_, ?_⟩
  · rw [z_ups_ne (by omega)]; exact h2
  · rw [z_ups_ne (by omega)]; exact h3
  · rw [z_ups_ne (show (52 : Nat) ≠ b by omega), z_ups_ne (show (85 : Nat) ≠ b by omega)]; exact h4
theorem y_unt_ch {a : Nat} {x : Nat × Int32} (ha : a ≤ n) (hx : y_unt f n val a = .inr x) : a < n ∧ f a ≠ 33 ∧ f a ≠ 40 ∧ f a ≠ 41 ∧ f a ≠ 124 ∧ f a ≠ 38 := by
  have hb := y_unt_b f n val a ha
  rw [hx] at hb
  have han : a < n := by have := hb.1; have := hb.2; omega
  have key : ∀ b : Int32, f a = b → y_lt b = none → y_id b = false → False := fun b hb1 h1 h2 => by
    unfold y_unt at hx
    have e4 : y_dgs f n 4 a 0 = (a, 0) := by
      rw [show (4 : Nat) = 3 + 1 from rfl, y_dgs_s, if_neg (show ¬ (a < n ∧ y_id (f a) = true) from fun q => by rw [hb1, h2] at q; cases q.2)]
    rw [e4, if_pos rfl] at hx
    unfold y_unl at hx
    rw [if_pos han, hb1, h1] at hx
    cases hx
  exact ⟨han, fun q => key 33 q rfl rfl, fun q => key 40 q rfl rfl, fun q => key 41 q rfl rfl, fun q => key 124 q rfl rfl, fun q => key 38 q rfl rfl⟩
theorem y_cpr_ch {a : Nat} {x : Nat × Bool} (ha : a ≤ n) (hx : y_cpr f n val a = .inr x) : a < n ∧ f a ≠ 33 ∧ f a ≠ 40 ∧ f a ≠ 41 ∧ f a ≠ 124 ∧ f a ≠ 38 := by
  unfold y_cpr at hx
  cases hu : y_unt f n val a with
  | inl p => rw [hu] at hx; cases hx
  | inr u => exact y_unt_ch ha hu
/-- what the model does with a test that is right -/
def y_v3 (L : Nat) (Dh : Nat → z_Sh) (R : Nat → Nat → Option Nat) (nx sl c kk : Nat) (ms : List y_Mv) (l : Nat) (S : Nat → Nat → Int32) (a' : Nat) (P : (Nat → Nat → Int32) → Prop) : Prop := ∃ S', L180_31 (some 52) (nI c) (nI l) (z_mk L Dh S R nx sl) = L180_31 (some 52) (nI c) (nI l) (z_mk L Dh S' R nx sl) ∧ S' 52 25 = nI a' ∧ S' 71 l = 0 ∧ y_lw l S S' ∧ y_lf S S' ∧ J_ed kk ms S' ∧ P S'
theorem M180_c {l a : Nat} (hl : l < 7) (h : y_mx S c f n) (hE : y_Env ms ad cs ca C V st kk Dh R nx val S) (ha : a ≤ n) (h25 : S 52 25 = nI a) {al no : Bool} (h70 : S 70 l = y_b al) (h71 : S 71 l = y_b no) {x : Nat × Bool} (hx : y_cpr f n val a = .inr x) (hnd : y_nd f n x.1) : y_v3 L Dh R nx sl c kk ms l S x.1 (fun S' => S' 70 l = y_b (al && (x.2 != no)) ∧ S' 69 l = S 69 l) := by
  obtain ⟨han, n1, n2, n3, n4, n5⟩ := y_cpr_ch ha hx
  obtain ⟨hc6, h60, h67, -, -⟩ := id h
  obtain ⟨S1, e1, e2, e3, e4⟩ := M177 (L := L) (sl := sl) h hE ha h25 hx hnd
  have s70 : S1 70 l = y_b al := by rw [e3.1 70 (by decide) (by omega)]; exact h70
  have s71 : S1 71 l = y_b no := by rw [e3.1 71 (by decide) (by omega)]; exact h71
  have e178 := M178 (L := L) (Dh := Dh) (R := R) (nx := nx) (sl := sl) hl (v := x.2) s70 s71
  refine ⟨z_ups (z_ups S1 70 l (y_b (al && (x.2 != no)))) 71 l 0, ?_, ?_, z_upsS, fun i hi => ⟨?_, ?_, ?_⟩, ?_, y_ed_w (by omega) (y_ed_w (by omega) e4), ?_, ?_⟩
  · rw [E180_31]
    simp only [g_52_25, g_52_20, z_bs, h25, l_67 (z_in_nI hc6 (by decide)), z_cl (show c < 2147483648 by omega), h67]
    rw [if_neg (nI_ge han (by omega))]
    simp only [g_52_19, z_bs, y_mx_at h han, n1, n2, n3, n4, n5, not_false_eq_true, z_iT, o_52, e1, e178, ne_eq]
  · rw [z_ups_ne (by decide), z_ups_ne (by decide)]; exact e2
  · rw [z_ups_ne (by decide), z_ups_ne (by decide), e3.1 69 (by decide) (by omega)]
  · rw [z_ups_ne (by decide), z_upsK (by omega), e3.1 70 (by decide) (by omega)]
  · rw [z_upsK (by omega), z_ups_ne (by decide), e3.1 71 (by decide) (by omega)]
  · exact y_lf_tr (y_uf_l e3) (y_lf_tr (y_lf_w (by omega)) (y_lf_w (by omega)))
  · rw [z_ups_ne (by decide), z_upsS]
  · rw [z_ups_ne (by decide), z_ups_ne (by decide), e3.1 69 (by decide) (by omega)]
theorem M180_o {k : Nat} (hT : ∀ (l a : Nat) (S : Nat → Nat → Int32) (al no : Bool) (x : Nat × Bool), l ≤ 5 - k → y_mx S c f n → y_Env ms ad cs ca C V st kk Dh R nx val S → a ≤ n → S 52 25 = nI a → S 70 l = y_b al → S 71 l = y_b no → y_tst f n val k a = .inr x → y_nd f n x.1 → y_v3 L Dh R nx sl c kk ms l S x.1 (fun S' => S' 70 l = y_b (al && (x.2 != no)) ∧ S' 69 l = S 69 l)) : ∀ (j : Nat) (an al : Bool) (l a : Nat) (S : Nat → Nat → Int32) (x : Nat × Bool), l ≤ 5 - k → y_mx S c f n → y_Env ms ad cs ca C V st kk Dh R nx val S → a ≤ n → S 52 25 = nI a → S 69 l = y_b an → S 70 l = y_b al → S 71 l = 0 → y_os f n (y_tst f n val k) j an al a = .inr x → y_nd f n x.1 → y_v3 L Dh R nx sl c kk ms l S x.1 (fun S' => ∃ an' al', S' 69 l = y_b an' ∧ S' 70 l = y_b al' ∧ (an' || al') = x.2) := by
  intro j
  induction j with
  | zero => intro an al l a S x h1 h2 h3 h4 h5 h6 h7 h8 hx; cases hx
  | succ j ih =>
    intro an al l a S x hl h hE ha h25 h69 h70 h71 hx hnd
    obtain ⟨hc6, h60, h67, -, -⟩ := id h
    have hl7 : l < 7 := by omega
    have l1 : z_in (nI l) 7 = true := z_in_nI hl7 (by decide)
    have l2 : (nI l).toNatClampNeg = l := z_cl (by omega)
    have hb := y_tst_b f n val k a ha
    rw [y_os_s] at hx
    cases hr : y_tst f n val k a with
    | inl p => rw [hr] at hx; cases hx
    | inr y =>
      rw [hr] at hx hb
      obtain ⟨w1, w2⟩ := hb
      have hx : (if y.1 < n ∧ f y.1 = 38 then y_os f n (y_tst f n val k) j an (al && y.2) (y.1 + 1) else if y.1 < n ∧ f y.1 = 124 then y_os f n (y_tst f n val k) j (an || (al && y.2)) true (y.1 + 1) else .inr (y.1, an || (al && y.2)) : y_Rs Bool) = .inr x := hx
      have go : y_nd f n y.1 → y_v3 L Dh R nx sl c kk ms l S y.1 (fun S' => S' 70 l = y_b (al && y.2) ∧ S' 69 l = y_b an) := fun nd => by
        obtain ⟨S', q1, q2, q3, q4, q5, q6, q7, q8⟩ := hT l a S al false y hl h hE ha h25 h70 h71 hr nd
        refine ⟨S', q1, q2, q3, q4, q5, q6, ?_, q8.trans h69⟩
        rw [q7]
        cases y.2 <;> rfl
      by_cases c1 : y.1 < n ∧ f y.1 = 38
      · rw [if_pos c1] at hx
        obtain ⟨S', q1, q2, q3, q4, q5, q6, q7, q8⟩ := go (Or.inr ⟨c1.1, by rw [c1.2]; rfl⟩)
        have h' := y_mx_uf h q5
        have E' := y_Env_uf hE q5 q6
        have e38 : L180_31 (some 52) (nI c) (nI l) (z_mk L Dh S' R nx sl) = L180_31 (some 52) (nI c) (nI l) (z_mk L Dh (z_ups S' 52 25 (nI (y.1 + 1))) R nx sl) := by
          rw [E180_31]
          simp only [g_52_25, g_52_20, z_bs, q2, l_67 (z_in_nI hc6 (by decide)), z_cl (show c < 2147483648 by omega), h'.2.2.1]
          rw [if_neg (nI_ge c1.1 (by omega))]
          simp only [g_52_19, z_bs, y_mx_at h' c1.1, c1.2, show ((38 : Int32) = 33) = False from eq_false (by decide), show ((38 : Int32) = 40) = False from eq_false (by decide), show ((38 : Int32) = 41) = False from eq_false (by decide), show ((38 : Int32) = 124) = False from eq_false (by decide), not_false_eq_true, not_true, z_iT, z_iF, p_52_25, nI_1]
        obtain ⟨S2, g1, g2, g3, g4, g5, g6, g7⟩ := ih an (al && y.2) l (y.1 + 1) (z_ups S' 52 25 (nI (y.1 + 1))) x hl (y_mx_uf h' (y_uf_l y_uf_25)) (y_Env_uf E' (y_uf_l y_uf_25) (y_ed_25 q6)) (by omega) z_upsS (by rw [z_ups_ne (by decide)]; exact q8) (by rw [z_ups_ne (by decide)]; exact q7) (by rw [z_ups_ne (by decide)]; exact q3) hx hnd
        refine ⟨S2, q1.trans (e38.trans g1), g2, g3, y_lw_tr q4 (y_lw_tr (fun i _ => ⟨by rw [z_ups_ne (by decide)], by rw [z_ups_ne (by decide)], by rw [z_ups_ne (by decide)]⟩) g4), y_lf_tr q5 (y_lf_tr (y_uf_l y_uf_25) g5), g6, g7⟩
      · rw [if_neg c1] at hx
        by_cases c2 : y.1 < n ∧ f y.1 = 124
        · rw [if_pos c2] at hx
          obtain ⟨S', q1, q2, q3, q4, q5, q6, q7, q8⟩ := go (Or.inr ⟨c2.1, by rw [c2.2]; rfl⟩)
          have h' := y_mx_uf h q5
          have E' := y_Env_uf hE q5 q6
          obtain ⟨T, hT2⟩ : ∃ T, T = z_ups (z_ups (z_ups S' 69 l (y_b (an || (al && y.2)))) 70 l 1) 52 25 (nI (y.1 + 1)) := ⟨_, rfl⟩
          have t25 : z_ups (z_ups S' 69 l (y_b (an || (al && y.2)))) 70 l 1 52 25 = nI y.1 := by rw [z_ups_ne (by decide), z_ups_ne (by decide)]; exact q2
          have e124 : L180_31 (some 52) (nI c) (nI l) (z_mk L Dh S' R nx sl) = L180_31 (some 52) (nI c) (nI l) (z_mk L Dh T R nx sl) := by
            rw [E180_31]
            simp only [g_52_25, g_52_20, z_bs, q2, l_67 (z_in_nI hc6 (by decide)), z_cl (show c < 2147483648 by omega), h'.2.2.1]
            rw [if_neg (nI_ge c2.1 (by omega))]
            simp only [g_52_19, g_52_22, g_52_23, z_bs, y_mx_at h' c2.1, c2.2, show ((124 : Int32) = 33) = False from eq_false (by decide), show ((124 : Int32) = 40) = False from eq_false (by decide), show ((124 : Int32) = 41) = False from eq_false (by decide), not_false_eq_true, not_true, z_iT, z_iF, l_69 l1, l_70 l1, l2, q7, q8]
            have e208 : an = true ∨ (al && y.2) = true → L180_208 (some 52) (nI c) (nI l) (nI l) (some 69) (z_mk L Dh S' R nx sl) = L180_31 (some 52) (nI c) (nI l) (z_mk L Dh T R nx sl) := fun hor => by
              have hb1 : y_b (an || (al && y.2)) = 1 := by
                rcases hor with q | q
                · rw [q, Bool.true_or]; rfl
                · rw [q, Bool.or_true]; rfl
              rw [hb1] at hT2 t25
              rw [E180_208, s_69 l1 (Or.inr rfl), l2]
              simp only [g_52_23, z_bs, s_70 l1 (Or.inr rfl), l2, g_52_25, t25, p_52_25, nI_1]
              rw [← hT2]
            cases han : an with
            | true => 
              rw [if_pos (by decide)]
              exact e208 (Or.inl han)
            | false =>
              rw [if_neg (fun q => q rfl)]
              cases hal : (al && y.2) with
              | true =>
                rw [if_neg (by decide)]
                exact e208 (Or.inr hal)
              | false =>
                rw [if_pos (show y_b false = 0 from rfl), s_69 l1 (Or.inl rfl), l2]
                rw [han, hal] at hT2 t25
                have hb0 : y_b (false || false) = 0 := rfl
                rw [hb0] at hT2 t25
                simp only [g_52_23, z_bs, s_70 l1 (Or.inr rfl), l2, g_52_25, t25, p_52_25, nI_1]
                rw [← hT2]
          have lT : y_lf S' T := by rw [hT2]; exact y_lf_tr (y_lf_w (by omega)) (y_lf_tr (y_lf_w (by omega)) (y_uf_l y_uf_25))
          have eT : J_ed kk ms T := by rw [hT2]; exact y_ed_25 (y_ed_w (by omega) (y_ed_w (by omega) q6))
          obtain ⟨S2, g1, g2, g3, g4, g5, g6, g7⟩ := ih (an || (al && y.2)) true l (y.1 + 1) T x hl (y_mx_uf h' lT) (y_Env_uf E' lT eT) (by omega) (by rw [hT2, z_upsS]) (by rw [hT2, z_ups_ne (by decide), z_ups_ne (by decide), z_upsS]) (by rw [hT2, z_ups_ne (by decide), z_upsS]; rfl) (by rw [hT2, z_ups_ne (by decide), z_ups_ne (by decide), z_ups_ne (by decide)]; exact q3) hx hnd
          refine ⟨S2, q1.trans (e124.trans g1), g2, g3, y_lw_tr q4 (y_lw_tr (fun i hi => ⟨?_, ?_, ?_⟩) g4), y_lf_tr q5 (y_lf_tr lT g5), g6, g7⟩
          · rw [hT2, z_ups_ne (by decide), z_ups_ne (by decide), z_upsK (by omega)]
          · rw [hT2, z_ups_ne (by decide), z_upsK (by omega), z_ups_ne (by decide)]
          · rw [hT2, z_ups_ne (by decide), z_ups_ne (by decide), z_ups_ne (by decide)]
        · rw [if_neg c2] at hx
          have hx : (y.1, an || (al && y.2)) = x := Sum.inr.inj hx
          rw [← hx] at hnd ⊢
          obtain ⟨S', q1, q2, q3, q4, q5, q6, q7, q8⟩ := go hnd
          exact ⟨S', q1, q2, q3, q4, q5, q6, an, (al && y.2), q8, q7, rfl⟩
end ZTI
