section ZSW
variable {L : Nat} {Dh : Nat → z_Sh} {S : Nat → Nat → Int32} {R : Nat → Nat → Option Nat} {nx sl : Nat}
theorem z_bt_ask1 {x : Int32} {k : Nat} (hk : k < 32) : ((x >>> (nI k &&& 31)) &&& (1 : Int32)) = 1 ↔ z_bt x k = true := by
  constructor
  · intro h
    cases q : z_bt x k with
    | true => rfl
    | false =>
      rw [(z_bt_ask hk).mpr q] at h
      exact absurd h (by decide)
  · intro h
    apply z_bt_ext
    intro j hj
    rw [z_bt_and, z_bt_1 j hj]
    by_cases c : j = 0
    · subst c
      rw [z_bt_shr hk (by omega), Nat.add_zero, h]
      rfl
    · simp only [c, decide_false, Bool.and_false]
theorem M200_72 {mk : Nat → Int32} (hm : y_mkok mk) (h77 : ∀ i, i < 8 → S 77 i = mk i) {w m c n : Nat} {D u s v1 v2 : Int32} (hm4 : m < 4) (hD : ¬ D = 0) (hc : c < 5) (he : ((nI w / D) - (nI w / D) / (5 : Int32) * (5 : Int32)) = nI c) : L200_72 (some 52) v1 v2 (nI w) u (nI n) s 1 (nI m) D (nI w) (z_mk L Dh S R nx sl) = match y_e1 mk m c (u, n, s) with
    | none => L200_6 (some 52) v1 v2 (nI (w + 1)) (z_mk L Dh S R nx sl)
    | some x => L200_28 (some 52) v1 v2 (nI w) x.1 (nI x.2.1) x.2.2 1 (nI (m + 1)) (z_mk L Dh S R nx sl) := by
  have h0 : ∀ u n, L200_111 (some 52) v1 v2 (nI w) u (nI n) s 0 (nI m) (nI c) (z_mk L Dh S R nx sl) = L200_6 (some 52) v1 v2 (nI (w + 1)) (z_mk L Dh S R nx sl) := fun u n => by
    rw [E200_111, if_pos rfl, E200_28, nI_1]
    have e : ∀ n s : Int32, L200_159 (some 52) v1 v2 (nI w) n s 0 (z_mk L Dh S R nx sl) = L200_6 (some 52) v1 v2 (nI (w + 1)) (z_mk L Dh S R nx sl) := fun n s => by rw [E200_159, if_pos rfl, nI_1]
    rw [e, if_pos rfl]
    by_cases q : (4 : Int32) ≤ nI (m + 1)
    · rw [if_pos q]
    · rw [if_neg q]
  rw [E200_72, if_neg hD, he]
  unfold y_e1
  by_cases c4 : c = 4
  · subst c4
    rw [if_neg (fun q => q rfl), if_pos rfl, nI_1]
  · rw [if_pos (show ¬ nI c = (4 : Int32) from fun q => c4 ((nI_eq (b := 4) (by omega) (by decide)).mp q)), if_neg c4]
    have hc4 : c < 4 := by omega
    have hask := z_bt_ask1 (x := u) (k := c) (by omega)
    unfold y_ok
    by_cases c1 : z_bt u c = true
    · rw [if_pos (hask.mpr c1), c1, Bool.not_true, Bool.false_and, if_neg (by decide), h0]
    · have c1' := Bool.eq_false_iff.mpr c1
      rw [if_neg (fun q => c1 (hask.mp q)), c1', Bool.not_false, Bool.true_and]
      simp only [o_52, z_bs, M199 hm h77 hm4 hc4]
      by_cases c2 : y_ft mk m c = true
      · rw [if_pos c2, if_pos (by decide), if_pos c2, E200_111, if_neg (by decide)]
        have d1 : z_in (nI c) 8 = true := z_in_nI (by omega) (by decide)
        have d2 : (nI c).toNatClampNeg = c := z_cl (by omega)
        have t1 : z_in (nI (4 + m)) 8 = true := z_in_nI (by omega) (by decide)
        have t2 : (nI (4 + m)).toNatClampNeg = 4 + m := z_cl (by omega)
        rw [show (4 : Int32) + nI m = nI (4 + m) from nI_add 4 m]
        simp only [g_52_36, o_52, z_bs, l_77 d1, l_77 t1, d2, t2, h77 c (by omega), h77 (4 + m) (by omega), M198, nI_1]
        rfl
      · rw [if_neg c2, if_neg (fun q => q rfl), if_neg c2, h0]
theorem y_dg5 : ∀ w, w < 625 → ((nI w / (125 : Int32)) - (nI w / (125 : Int32)) / (5 : Int32) * (5 : Int32)) = nI (w / 5 / 5 / 5 % 5) ∧ ((nI w / (25 : Int32)) - (nI w / (25 : Int32)) / (5 : Int32) * (5 : Int32)) = nI (w / 5 / 5 % 5) ∧ ((nI w / (5 : Int32)) - (nI w / (5 : Int32)) / (5 : Int32) * (5 : Int32)) = nI (w / 5 % 5) ∧ ((nI w / (1 : Int32)) - (nI w / (1 : Int32)) / (5 : Int32) * (5 : Int32)) = nI (w % 5) := by decide +kernel
theorem M200_28 {mk : Nat → Int32} (hm : y_mkok mk) (h77 : ∀ i, i < 8 → S 77 i = mk i) {w : Nat} (hw : w < 625) {v1 v2 : Int32} : L200_28 (some 52) v1 v2 (nI w) 0 0 0 1 0 (z_mk L Dh S R nx sl) = match y_ev mk 4 w with
    | none => L200_6 (some 52) v1 v2 (nI (w + 1)) (z_mk L Dh S R nx sl)
    | some x => L200_159 (some 52) v1 v2 (nI w) (nI x.2.1) x.2.2 1 (z_mk L Dh S R nx sl) := by
  obtain ⟨g0, g1, g2, g3⟩ := y_dg5 w hw
  have st0 : ∀ (u : Int32) (n : Nat) (s : Int32), L200_28 (some 52) v1 v2 (nI w) u (nI n) s 1 (nI 0) (z_mk L Dh S R nx sl) = L200_72 (some 52) v1 v2 (nI w) u (nI n) s 1 (nI 0) 125 (nI w) (z_mk L Dh S R nx sl) := fun u n s => by
    rw [E200_28, if_neg (by decide), if_neg (by decide), if_neg (fun q => q rfl)]
  have st1 : ∀ (u : Int32) (n : Nat) (s : Int32), L200_28 (some 52) v1 v2 (nI w) u (nI n) s 1 (nI 1) (z_mk L Dh S R nx sl) = L200_72 (some 52) v1 v2 (nI w) u (nI n) s 1 (nI 1) 25 (nI w) (z_mk L Dh S R nx sl) := fun u n s => by
    rw [E200_28, if_neg (by decide), if_neg (by decide), if_pos (by decide), if_neg (fun q => q rfl)]
  have st2 : ∀ (u : Int32) (n : Nat) (s : Int32), L200_28 (some 52) v1 v2 (nI w) u (nI n) s 1 (nI 2) (z_mk L Dh S R nx sl) = L200_72 (some 52) v1 v2 (nI w) u (nI n) s 1 (nI 2) 5 (nI w) (z_mk L Dh S R nx sl) := fun u n s => by
    rw [E200_28, if_neg (by decide), if_neg (by decide), if_pos (by decide), if_pos (by decide), if_neg (fun q => q rfl)]
  have st3 : ∀ (u : Int32) (n : Nat) (s : Int32), L200_28 (some 52) v1 v2 (nI w) u (nI n) s 1 (nI 3) (z_mk L Dh S R nx sl) = L200_72 (some 52) v1 v2 (nI w) u (nI n) s 1 (nI 3) 1 (nI w) (z_mk L Dh S R nx sl) := fun u n s => by
    rw [E200_28, if_neg (by decide), if_neg (by decide), if_pos (by decide), if_pos (by decide), if_pos (by decide)]
  have s0 := st0 0 0 0
  rw [M200_72 hm h77 (m := 0) (by decide) (by decide) (show w / 5 / 5 / 5 % 5 < 5 by omega) g0] at s0
  rw [y_ev_s, y_ev_s, y_ev_s, y_ev_s]
  show L200_28 (some 52) v1 v2 (nI w) 0 (nI 0) 0 1 (nI 0) _ = _
  rw [s0]
  show _ = match ((((y_e1 mk 0 (w / 5 / 5 / 5 % 5) (0, 0, 0)).bind (y_e1 mk 1 (w / 5 / 5 % 5))).bind (y_e1 mk 2 (w / 5 % 5))).bind (y_e1 mk 3 (w % 5))) with
    | none => _
    | some x => _
  cases y_e1 mk 0 (w / 5 / 5 / 5 % 5) (0, 0, 0) with
  | none => rfl
  | some x0 =>
    have s1 := st1 x0.1 x0.2.1 x0.2.2
    rw [M200_72 hm h77 (m := 1) (by decide) (by decide) (show w / 5 / 5 % 5 < 5 by omega) g1] at s1
    show L200_28 (some 52) v1 v2 (nI w) x0.1 (nI x0.2.1) x0.2.2 1 (nI 1) _ = match ((y_e1 mk 1 (w / 5 / 5 % 5) x0).bind (y_e1 mk 2 (w / 5 % 5))).bind (y_e1 mk 3 (w % 5)) with
    | none => _
    | some x => _
    rw [s1]
    cases y_e1 mk 1 (w / 5 / 5 % 5) x0 with
    | none => rfl
    | some x1 =>
      have s2 := st2 x1.1 x1.2.1 x1.2.2
      rw [M200_72 hm h77 (m := 2) (by decide) (by decide) (show w / 5 % 5 < 5 by omega) g2] at s2
      show L200_28 (some 52) v1 v2 (nI w) x1.1 (nI x1.2.1) x1.2.2 1 (nI 2) _ = match (y_e1 mk 2 (w / 5 % 5) x1).bind (y_e1 mk 3 (w % 5)) with
      | none => _
      | some x => _
      rw [s2]
      cases y_e1 mk 2 (w / 5 % 5) x1 with
      | none => rfl
      | some x2 =>
        have s3 := st3 x2.1 x2.2.1 x2.2.2
        rw [M200_72 hm h77 (m := 3) (by decide) (by decide) (show w % 5 < 5 by omega) g3] at s3
        show L200_28 (some 52) v1 v2 (nI w) x2.1 (nI x2.2.1) x2.2.2 1 (nI 3) _ = match y_e1 mk 3 (w % 5) x2 with
        | none => _
        | some x => _
        rw [s3]
        cases y_e1 mk 3 (w % 5) x2 with
        | none => rfl
        | some x3 =>
          show L200_28 (some 52) v1 v2 (nI w) x3.1 (nI x3.2.1) x3.2.2 1 (nI 4) _ = L200_159 (some 52) v1 v2 (nI w) (nI x3.2.1) x3.2.2 1 _
          rw [E200_28, if_pos (by decide)]
def y_mre2 (S : Nat → Nat → Int32) (st : y_St) : Prop := st.1 ≠ -1 → S 52 37 = nI st.2.2 ∧ st.2.2 < 625
theorem M200_159 {w n : Nat} {s : Int32} {st : y_St} (hw : w < 625) (hr : y_mre2 S st) : ∃ S', L200_159 (some 52) st.1 st.2.1 (nI w) (nI n) s 1 (z_mk L Dh S R nx sl) = L200_6 (some 52) (y_kp st n s w).1 (y_kp st n s w).2.1 (nI (w + 1)) (z_mk L Dh S' R nx sl) ∧ y_mre2 S' (y_kp st n s w) ∧ (∀ b, b ≠ 52 → S' b = S b) ∧ ∀ q, q ≠ 37 → S' 52 q = S 52 q := by
  have set : ∃ S', ((z_pI 0 (z_mk L Dh S R nx sl) (some 52) 11 37 (nI w)).bind fun h1 => L200_6 (some 52) (nI n) s (nI (w + 1)) h1) = L200_6 (some 52) (nI n) s (nI (w + 1)) (z_mk L Dh S' R nx sl) ∧ y_mre2 S' (nI n, s, w) ∧ (∀ b, b ≠ 52 → S' b = S b) ∧ ∀ q, q ≠ 37 → S' 52 q = S 52 q := by
    simp only [p_52_37, z_bs]
    exact ⟨_, rfl, fun _ => ⟨z_upsS, hw⟩, fun b hb => z_ups_ne hb, fun q hq => z_upsK hq⟩
  rw [E200_159, if_neg (by decide), nI_1]
  unfold y_kp
  by_cases c1 : nI n < st.1
  · rw [if_pos c1, if_pos c1]; exact ⟨S, rfl, hr, fun _ _ => rfl, fun _ _ => rfl⟩
  · rw [if_neg c1, if_neg c1]
    by_cases c2 : nI n = st.1
    · rw [if_neg (show ¬ ¬ nI n = st.1 from fun q => q c2), if_neg (show ¬ ¬ nI n = st.1 from fun q => q c2)]
      by_cases c3 : s < st.2.1
      · rw [if_pos c3, if_pos c3]; exact set
      · rw [if_neg c3, if_neg c3]; exact ⟨S, rfl, hr, fun _ _ => rfl, fun _ _ => rfl⟩
    · rw [if_pos c2, if_pos c2]; exact set
theorem M200_6 {mk : Nat → Int32} (hm : y_mkok mk) : ∀ (j w : Nat) (S : Nat → Nat → Int32) (st : y_St), w + j = 625 → (∀ i, i < 8 → S 77 i = mk i) → y_mre2 S st → ∃ S', L200_6 (some 52) st.1 st.2.1 (nI w) (z_mk L Dh S R nx sl) = some (z_mk L Dh S' R nx sl) ∧ y_mre2 S' (y_wl mk j w st) ∧ (∀ b, b ≠ 52 → S' b = S b) ∧ ∀ q, q ≠ 37 → S' 52 q = S 52 q := by
  intro j
  induction j with
  | zero =>
    intro w S st hw h77 hr
    obtain rfl : w = 625 := by omega
    refine ⟨S, ?_, hr, fun _ _ => rfl, fun _ _ => rfl⟩
    rw [E200_6, if_pos (show (625 : Int32) ≤ nI 625 by decide)]
  | succ j ih =>
    intro w S st hw h77 hr
    have hw6 : w < 625 := by omega
    rw [E200_6, if_neg (show ¬ (625 : Int32) ≤ nI (w) from nI_ge (a := w) (b := 625) (by omega) (by decide)), M200_28 hm h77 hw6, y_wl_s]
    unfold y_wv
    cases y_ev mk 4 w with
    | none => exact ih (w + 1) S st (by omega) h77 hr
    | some x =>
      obtain ⟨S1, e1, e2, e3, e4⟩ := M200_159 (L := L) (Dh := Dh) (R := R) (nx := nx) (sl := sl) (n := x.2.1) (s := x.2.2) hw6 hr
      obtain ⟨S2, f1, f2, f3, f4⟩ := ih (w + 1) S1 _ (by omega) (fun i hi => by rw [e3 77 (by decide)]; exact h77 i hi) e2
      exact ⟨S2, e1.trans f1, f2, fun b hb => (f3 b hb).trans (e3 b hb), fun q hq => (f4 q hq).trans (e4 q hq)⟩
def A_mat (a : Nat) : Bool := decide (a ∈ [7, 38, 40, 41, 86])
def K_mat (k : Nat) : Bool := decide (k ∈ [37])
theorem S_matched (h_I_ref : I_ref S) (h_I_mks : I_mks S) (x : Int32) : z_R2 (fun h => z_cI 62 112 [.inr (.inr (some 6)), .inl x] h) (fun h => z_cI 4 201 [.inr (.inr (some 52)), .inl x] h) L Dh S R nx sl A_mat K_mat (fun S' => I_ref S') := by
  by_cases d1 : x < 0 ∨ 4 ≤ x
  · refine z_R2_no z_code1 rfl rfl h_I_ref ?_ ?_ (z_no_ref h_I_ref z_code1)
    · show z_cI 62 112 _ _ = _
      rw [E112]
      simp only [o_6, z_bs, M122 z_code1]
      rcases d1 with c | c
      · rw [if_pos c]
      · by_cases c0 : x < 0
        · rw [if_pos c0]
        · rw [if_neg c0, if_neg (Int32.not_lt.mpr c)]
    · show z_cI 4 201 _ _ = _
      rw [E201]
      simp only [o_52, z_bs, M131 z_code1]
      rcases d1 with c | c
      · rw [if_pos c]
      · by_cases c0 : x < 0
        · rw [if_pos c0]
        · rw [if_neg c0, if_neg (fun q => by have a := z_le.mp c; have b := z_le.mp q; have e1 : (4 : Int32).toInt = 4 := rfl; have e2 : (3 : Int32).toInt = 3 := rfl; omega)]
  · obtain ⟨i, hi, rfl⟩ := z_plc (n := 4) (by omega) (fun q => d1 (Or.inl q)) (fun q => d1 (Or.inr q))
    have i1 : z_in (nI i) 4 = true := z_in_nI hi (by decide)
    have i2 : (nI i).toNatClampNeg = i := z_cl (by omega)
    have hm : y_mkok (S 39) := fun w hw => by
      have h := h_I_mks w hw
      by_cases q : (S 39 w).toInt = -1
      · left; rw [z_eq, q]; rfl
      · right; exact z_le.mpr (show (0 : Int32).toInt ≤ _ by have e0 : (0 : Int32).toInt = 0 := rfl; omega)
    obtain ⟨T, hT⟩ : ∃ T, T = z_ups (z_ups S 38 3 (-1)) 38 4 0 := ⟨_, rfl⟩
    have c0 : y_cf S T := ⟨fun b x _ _ => by rw [hT, z_ups_ne x, z_ups_ne x], fun q x y => by rw [hT, z_upsK y, z_upsK x]⟩
    obtain ⟨S1, e1, e2, e3, e4⟩ := M9 (L := L) (Dh := Dh) (R := R) (nx := nx) (sl := sl) hm 4 44 0 0 0 0 0 T (-1, 0, 0) (by omega) (fun w _ => by rw [c0.1 39 (by decide) (by decide) (by decide)]) trivial ⟨by rw [hT, z_upsK (by decide), z_upsS], by rw [hT, z_upsS], fun q => absurd rfl q⟩
    have cf := y_cf_tr c0 e4
    obtain ⟨S2, f1, f2, f3, f4⟩ := M200_6 (L := L) (Dh := Dh) (R := R) (nx := nx) (sl := sl) hm 625 0 S1 (-1, 0, 0) (by omega) (fun w hw => by rw [cf.1 77 (by decide) (by decide) (by decide)]; exact (h_I_mks w hw).1.symm) (fun q => absurd rfl q)
    rw [y_wl_G] at f2
    have hset := y_G_set (S 39) 4 0 0 0 0 0 (-1, 0, 0) (by omega)
    generalize y_G (S 39) 4 0 0 0 0 0 (-1, 0, 0) = fin at *
    obtain ⟨p1, p2⟩ := f2 hset
    have q4 := e2.2.2 hset
    obtain ⟨q3, q2, q1, q0, -⟩ := q4
    obtain ⟨g0, g1, g2, g3⟩ := y_dg5 fin.2.2 p2
    have e1' : z_cV 60 9 [.inr (.inr (some 38)), .inl (0 : Int32), .inl (0 : Int32), .inl (0 : Int32), .inl (0 : Int32)] (z_mk L Dh T R nx sl) = some (z_mk L Dh S1 R nx sl) := e1
    have f1' : L200_6 (some 52) (-1 : Int32) (0 : Int32) (0 : Int32) (z_mk L Dh S1 R nx sl) = some (z_mk L Dh S2 R nx sl) := f1
    have sel : ∀ c, c < 5 → ∀ h : z_H, (if ¬ nI c = (4 : Int32) then some (nI c, h) else some ((-9 : Int32), h)) = some (y_pk c, h) := fun c hc h => by
      unfold y_pk
      by_cases q : c = 4
      · subst q; rw [if_neg (fun q => q rfl), if_pos rfl]
      · rw [if_pos (show ¬ nI c = (4 : Int32) from fun w => q ((nI_eq (b := 4) (by omega) (by decide)).mp w)), if_neg q]
    refine ⟨S1 41 i, S1, S2, ?_, ?_, ⟨fun b hb h52 => ?_, fun k hk => ?_⟩, ?_⟩
    · show z_cI 62 112 _ _ = _
      rw [E112, if_neg (fun q => d1 (Or.inl q)), if_pos (Int32.not_le.mp (fun q => d1 (Or.inr q)))]
      simp only [g_6_6, o_38, z_bs]
      rw [E8]
      simp only [p_38_3, p_38_4, z_bs, o_38]
      rw [← hT, e1']
      simp only [z_bs, g_38_2, l_41 i1, i2]
    · show z_cI 4 201 _ _ = _
      rw [E201, if_neg (fun q => d1 (Or.inl q)), if_pos (show nI i ≤ (3 : Int32) from nI_le (b := 3) (by omega) (by decide)), E200]
      simp only [o_52, z_bs]
      rw [f1']
      simp only [z_bs, g_52_37, p1]
      rw [g0, g1, g2, g3, sel _ (by omega), sel _ (by omega), sel _ (by omega), sel _ (by omega)]
      rcases (show i = 0 ∨ i = 1 ∨ i = 2 ∨ i = 3 by omega) with rfl | rfl | rfl | rfl
      · rw [if_neg (fun q => q rfl), q0]
      · rw [if_pos (by decide), if_neg (fun q => q rfl), q1]
      · rw [if_pos (by decide), if_pos (by decide), if_neg (fun q => q rfl), q2]
      · rw [if_pos (by decide), if_pos (by decide), if_pos (by decide), q3]
    · have hb := of_decide_eq_false hb
      rw [f3 b h52, cf.1 b (fun q => hb (by rw [q]; decide)) (fun q => hb (by rw [q]; decide)) (fun q => hb (by rw [q]; decide))]
    · have hk := of_decide_eq_false hk
      rw [f4 k (fun q => hk (by rw [q]; decide)), cf.1 52 (by decide) (by decide) (by decide)]
    · exact I_ref_fr h_I_ref ⟨by rw [f3 7 (by decide), cf.1 7 (by decide) (by decide) (by decide)], by rw [f3 86 (by decide), cf.1 86 (by decide) (by decide) (by decide)]⟩
end ZSW
