section ZSR
variable {L : Nat} {Dh : Nat → z_Sh} {S : Nat → Nat → Int32} {R : Nat → Nat → Option Nat} {nx sl : Nat}
variable {ms : List y_Mv} {ad : Nat → Nat}
def y_set (f : Nat → Int32) (c : Nat) : Bool := z_bt (f (c / 20)) (c % 20)
theorem y_set_r {a b : Nat} (h : I_bits a b S) : y_rows (S a) (y_set (S a)) := ⟨fun _ _ => rfl, h.2⟩
theorem y_set_b {a b : Nat} (h : I_bits a b S) : y_bo (S b) (y_set (S a)) := fun c hc => h.1 c hc
theorem y_st20 (h : I_str S) : ∃ st, 1 ≤ st ∧ st ≤ 20 ∧ S 8 4 = nI st ∧ S 52 11 = nI st := by
  obtain ⟨h1, h2, h3⟩ := h
  refine ⟨(S 8 4).toInt.toNat, by omega, by omega, ?_, ?_⟩
  · rw [z_eq, z_nI (by omega)]; omega
  · rw [h1, z_eq, z_nI (by omega)]; omega
def A_sav (a : Nat) : Bool := decide (a ∈ [7, 13, 14, 15, 81, 82, 83, 84, 86])
/-- the two sides' runs for one body, frames together -/
theorem y_sav_fr {S1 S2 : Nat → Nat → Int32} (e : y_ef S S1) (w : y_wf2 S1 S2) : z_fr A_sav K_dan S S2 := by
  refine ⟨fun b hb h52 => ?_, fun k hk => ?_⟩
  · have hb := of_decide_eq_false hb
    rw [w.1 b (fun q => hb (by rw [q]; decide)) (fun q => hb (by rw [q]; decide)) (fun q => hb (by rw [q]; decide)) (fun q => hb (by rw [q]; decide)) h52, e b (fun q => hb (by rw [q]; decide)) (fun q => hb (by rw [q]; decide)) (fun q => hb (by rw [q]; decide))]
  · have hk := of_decide_eq_false hk
    rw [w.2 k (fun q => hk (by rw [q]; decide)), e 52 (by decide) (by decide) (by decide)]
theorem I_cov_ef {S' : Nat → Nat → Int32} (h : I_cov S) (e : y_ef S S') : I_cov S' := I_cov_fr h ⟨e 9 (by decide) (by decide) (by decide), e 53 (by decide) (by decide) (by decide)⟩
theorem I_saf_ef {S' : Nat → Nat → Int32} (h : I_saf S) (e : y_ef S S') : I_saf S' := I_saf_fr h ⟨e 10 (by decide) (by decide) (by decide), e 54 (by decide) (by decide) (by decide)⟩
theorem S_saved (h_I_ref : I_ref S) (hcov : I_cov S) (hsaf : I_saf S) (hstr : I_str S) (J : J_mov ms ad Dh S R nx) (x t : Int32) : z_R2 (fun h => z_cI 6 92 [.inr (.inr (some 6)), .inl x, .inl t] h) (fun h => z_cI 7 160 [.inr (.inr (some 52)), .inl x, .inl t] h) L Dh S R nx sl A_sav K_dan (fun S' => I_ref S') := by
  have h12' := J.1
  obtain ⟨st, hst1, hst, h84, h11⟩ := y_st20 hstr
  by_cases d1 : x < 0 ∨ nI ms.length ≤ x
  · refine z_R2_no z_code1 rfl rfl h_I_ref ?_ ?_ (z_no_ref h_I_ref z_code1)
    · show z_cI 6 92 _ _ = _
      rw [E92]
      simp only [g_6_1, o_8, M43x J d1, z_bs, z_nulN, z_tt, z_iT, o_6, M122 z_code1]
    · show z_cI 7 160 _ _ = _
      rw [E160]
      simp only [o_52, z_bs, M133 (show z_no 7 S (-1) 52 2 = nI ms.length from J.2.2.1), d1, z_iT, z_e00, not_true, z_iF, M131 z_code1]
  · obtain ⟨i, hi, rfl⟩ := z_plc (by omega) (fun q => d1 (Or.inl q)) (fun q => d1 (Or.inr q))
    obtain ⟨k1, k2, k3, k4, k5⟩ := J.2.2.2.1 i hi
    have h12 : i < 12 := by omega
    have h87 := k4.1.1
    have i1 : z_in (nI i) 12 = true := z_in_nI h12 (by decide)
    have i2 : (nI i).toNatClampNeg = i := z_cl (by omega)
    have kk := k3.1
    have kd : (ms[i]).1 = 0 ∨ (ms[i]).1 = 1 := by omega
    have ke : (nI (ms[i]).1 = (0 : Int32)) = ¬ (1 ≤ (ms[i]).1) := propext ⟨fun q w => by rcases kd with e | e <;> rw [e] at q w <;> revert q w <;> decide, fun q => by rw [show (ms[i]).1 = 0 by omega]; rfl⟩
    have kf : (nI (ms[i]).1 = (1 : Int32)) = (1 ≤ (ms[i]).1) := propext ⟨fun q => by rcases kd with e | e <;> rw [e] at q <;> revert q <;> rw [e] <;> decide, fun q => by rw [show (ms[i]).1 = 1 by omega]; rfl⟩
    by_cases c1 : 1 ≤ (ms[i]).1
    · refine z_R2_no z_code2 rfl rfl h_I_ref ?_ ?_ (z_no_ref h_I_ref z_code2)
      · show z_cI 6 92 _ _ = _
        rw [E92]
        simp only [M122 z_code2, z_bs, g_6_1, o_8, o_6, M43n J hi, z_nulS (show 6 ≤ ad i by omega), z_ff, y_g0 k4.1, k4.2.1, ke, c1, true_or, or_true, or_self, false_or, or_false, not_true, not_false_eq_true, Classical.not_not, z_10, z_iT, z_iF]
      · show z_cI 7 160 _ _ = _
        rw [E160]
        simp only [M131 z_code2, z_bs, o_52, M133 (S := (z_no 7 S (-2))) (n := ms.length) (show (z_no 7 S (-2)) 52 2 = nI ms.length from J.2.2.1), d1, g_52_3, l_55 i1, i2, show (z_no 7 S (-2)) 55 i = nI (ms[i]).1 from k5.1, kf, c1, true_or, or_true, or_self, false_or, or_false, not_true, not_false_eq_true, Classical.not_not, z_10, z_iT, z_iF]
    · skip
      by_cases c2 : t < 0
      · refine z_R2_no z_code4 rfl rfl h_I_ref ?_ ?_ (z_no_ref h_I_ref z_code4)
        · show z_cI 6 92 _ _ = _
          rw [E92]
          simp only [M122 z_code4, z_bs, g_6_1, o_8, o_6, M43n J hi, z_nulS (show 6 ≤ ad i by omega), z_ff, y_g0 k4.1, k4.2.1, ke, c1, c2, Int32.not_le.mpr c2, true_or, or_true, or_self, false_or, or_false, not_true, not_false_eq_true, Classical.not_not, z_10, z_iT, z_iF]
        · show z_cI 7 160 _ _ = _
          rw [E160]
          simp only [M131 z_code4, z_bs, o_52, M133 (S := (z_no 7 S (-4))) (n := ms.length) (show (z_no 7 S (-4)) 52 2 = nI ms.length from J.2.2.1), d1, g_52_3, l_55 i1, i2, show (z_no 7 S (-4)) 55 i = nI (ms[i]).1 from k5.1, kf, c1, c2, Int32.not_le.mpr c2, true_or, or_true, or_self, false_or, or_false, not_true, not_false_eq_true, Classical.not_not, z_10, z_iT, z_iF]
      · skip
        by_cases c3 : 600 < t
        · refine z_R2_no z_code6 rfl rfl h_I_ref ?_ ?_ (z_no_ref h_I_ref z_code6)
          · show z_cI 6 92 _ _ = _
            rw [E92]
            simp only [M122 z_code6, z_bs, g_6_1, o_8, o_6, M43n J hi, z_nulS (show 6 ≤ ad i by omega), z_ff, y_g0 k4.1, k4.2.1, ke, c1, c2, Int32.not_lt.mp c2, c3, Int32.not_le.mpr c3, true_or, or_true, or_self, false_or, or_false, not_true, not_false_eq_true, Classical.not_not, z_10, z_iT, z_iF]
          · show z_cI 7 160 _ _ = _
            rw [E160]
            simp only [M131 z_code6, z_bs, o_52, M133 (S := (z_no 7 S (-6))) (n := ms.length) (show (z_no 7 S (-6)) 52 2 = nI ms.length from J.2.2.1), d1, g_52_3, l_55 i1, i2, show (z_no 7 S (-6)) 55 i = nI (ms[i]).1 from k5.1, kf, c1, c2, Int32.not_lt.mp c2, c3, Int32.not_le.mpr c3, true_or, or_true, or_self, false_or, or_false, not_true, not_false_eq_true, Classical.not_not, z_10, z_iT, z_iF]
        · skip
          obtain ⟨tt, htt, rfl⟩ := nI_of2 (n := 600) rfl c2 (Int32.not_lt.mp c3)
          obtain ⟨S1, e1, e2⟩ := M52 (L := L) (sl := sl) k3 htt hst J k4 h84 (y_set_r hcov) (y_set_r hsaf)
          have J1 := J_mov_ef J e2
          obtain ⟨S2, f1, f2⟩ := M157 (L := L) (sl := sl) hi htt hst hst1 J1 (by rw [e2 52 (by decide) (by decide) (by decide)]; exact h11) (y_set_b (I_cov_ef hcov e2)) (y_set_b (I_saf_ef hsaf e2))
          rw [e2 9 (by decide) (by decide) (by decide), e2 10 (by decide) (by decide) (by decide)] at f1
          refine ⟨y_sv ms tt st (y_set (S 9)) (y_set (S 10)) ms[i], S1, S2, ?_, ?_, y_sav_fr e2 f2, ?_⟩
          · show z_cI 6 92 _ _ = _
            rw [E92]
            simp only [g_6_1, o_8, o_6, M43n J hi, z_nulS (show 6 ≤ ad i by omega), z_ff, y_g0 k4.1, k4.2.1, ke, z_bs, c1, c2, Int32.not_lt.mp c2, c3, Int32.not_lt.mp c3, true_or, or_true, or_self, false_or, or_false, not_true, not_false_eq_true, Classical.not_not, z_10, z_iT, z_iF, e1]
          · show z_cI 7 160 _ _ = _
            rw [E160]
            simp only [o_52, M133 (S := S1) (n := ms.length) (show S1 52 2 = nI ms.length from J1.2.2.1), d1, g_52_3, l_55 i1, i2, show S1 55 i = nI (ms[i]).1 from (J1.2.2.2.1 i hi).2.2.2.2.1, kf, z_bs, c1, c2, Int32.not_lt.mp c2, c3, Int32.not_lt.mp c3, true_or, or_true, or_self, false_or, or_false, not_true, not_false_eq_true, Classical.not_not, z_10, z_iT, z_iF, f1]
          · exact I_ref_fr h_I_ref ⟨by rw [f2.1 7 (by decide) (by decide) (by decide) (by decide) (by decide), e2 7 (by decide) (by decide) (by decide)], by rw [f2.1 86 (by decide) (by decide) (by decide) (by decide) (by decide), e2 86 (by decide) (by decide) (by decide)]⟩
/-! aborts -/
def y_l1b (ms : List y_Mv) (t st : Nat) (C V : Nat → Bool) (m : y_Mv) : Bool := decide (m.1 = 0) && decide (y_sv ms t st C V m = -9)
def y_lost (ms : List y_Mv) (t st : Nat) (C V : Nat → Bool) : List y_Mv → Nat
  | [] => 0
  | m :: r => (if y_l1b ms t st C V m = true then 1 else 0) + y_lost ms t st C V r
theorem y_lost_s (ms : List y_Mv) (t st : Nat) (C V : Nat → Bool) (m : y_Mv) (r : List y_Mv) : y_lost ms t st C V (m :: r) = (if y_l1b ms t st C V m = true then 1 else 0) + y_lost ms t st C V r := rfl
theorem M51_4 {t st : Nat} {C V : Nat → Bool} (ht : t ≤ 600) (hst : st ≤ 20) : ∀ (r : List y_Mv) (i n : Nat) (S : Nat → Nat → Int32), ms.drop i = r → i ≤ ms.length → J_mov ms ad Dh S R nx → S 8 4 = nI st → y_rows (S 9) C → y_rows (S 10) V → ∃ S', L51_4 (some 8) (nI t) (nI n) (nI i) (z_mk L Dh S R nx sl) = some (nI (n + y_lost ms t st C V r), z_mk L Dh S' R nx sl) ∧ y_ef S S' := by
  intro r
  induction r with
  | nil =>
    intro i n S hr hi J h84 hC hV
    have h12 := J.1
    have hk : ms.length ≤ i := List.drop_eq_nil_iff.mp hr
    refine ⟨S, ?_, fun _ _ _ _ => rfl⟩
    rw [E51_4]
    simp only [g_8_3, z_bs, J.2.1]
    rw [if_pos (nI_le hk (by omega))]
    rfl
  | cons m r ih =>
    intro i n S hr hi J h84 hC hV
    have h12 := J.1
    obtain ⟨hk, hg, hd⟩ := y_drop_cons hr
    obtain ⟨a1, a2, a3, a4, a5⟩ := J.2.2.2.1 i hk
    rw [hg] at a3 a4 a5
    have ka := a3.1
    rw [E51_4, y_lost_s]
    simp only [g_8_3, g_8_2, z_bs, J.2.1]
    rw [if_neg (nI_ge hk (by omega)), l_11 (z_in_nI (show i < 12 by omega) (by decide)), z_cl (show i < 2147483648 by omega), a1]
    simp only [z_bs, y_g0 a4.1, a4.2.1, nI_1, o_8]
    by_cases c1 : m.1 = 0
    · rw [if_neg (show ¬ ¬ nI m.1 = (0 : Int32) from fun q => q (by rw [c1]; rfl))]
      obtain ⟨S1, e1, e2⟩ := M52 (L := L) (sl := sl) a3 ht hst J a4 h84 hC hV
      rw [e1]
      simp only [z_bs]
      have hih := fun n => ih (i + 1) n S1 hd (by omega) (J_mov_ef J e2) (by rw [e2 8 (by decide) (by decide) (by decide)]; exact h84) (by rw [e2 9 (by decide) (by decide) (by decide)]; exact hC) (by rw [e2 10 (by decide) (by decide) (by decide)]; exact hV)
      by_cases c2 : y_sv ms t st C V m = -9
      · have hb : y_l1b ms t st C V m = true := by unfold y_l1b; rw [decide_eq_true c1, decide_eq_true c2]; rfl
        rw [if_neg (fun q => q c2), if_pos hb]
        obtain ⟨S2, f1, f2⟩ := hih (n + 1)
        exact ⟨S2, by rw [f1, show n + 1 + y_lost ms t st C V r = n + (1 + y_lost ms t st C V r) by omega], y_ef_tr e2 f2⟩
      · have hb : y_l1b ms t st C V m = false := by unfold y_l1b; rw [decide_eq_false c2, Bool.and_false]
        rw [if_pos c2, hb, if_neg (by decide), Nat.zero_add]
        obtain ⟨S2, f1, f2⟩ := hih n
        exact ⟨S2, f1, y_ef_tr e2 f2⟩
    · have hb : y_l1b ms t st C V m = false := by unfold y_l1b; rw [decide_eq_false c1, Bool.false_and]
      rw [if_pos (nI_ne0 (by omega) (by omega)), hb, if_neg (by decide), Nat.zero_add]
      exact ih (i + 1) n S hd (by omega) J h84 hC hV
theorem M158_4 {t st : Nat} {C V : Nat → Bool} (ht : t ≤ 600) (hst : st ≤ 20) (hst1 : 1 ≤ st) : ∀ (r : List y_Mv) (i n : Nat) (S : Nat → Nat → Int32), ms.drop i = r → i ≤ ms.length → J_mov ms ad Dh S R nx → S 52 11 = nI st → y_bo (S 53) C → y_bo (S 54) V → ∃ S', L158_4 (some 52) (nI t) (nI n) (nI i) (z_mk L Dh S R nx sl) = some (nI (n + y_lost ms t st C V r), z_mk L Dh S' R nx sl) ∧ y_wf2 S S' := by
  intro r
  induction r with
  | nil =>
    intro i n S hr hi J h84 hC hV
    have h12 := J.1
    have hk : ms.length ≤ i := List.drop_eq_nil_iff.mp hr
    refine ⟨S, ?_, y_wf2_id⟩
    rw [E158_4]
    simp only [g_52_2, z_bs, J.2.2.1]
    rw [if_pos (nI_le hk (by omega))]
    rfl
  | cons m r ih =>
    intro i n S hr hi J h84 hC hV
    have h12 := J.1
    obtain ⟨hk, hg, hd⟩ := y_drop_cons hr
    obtain ⟨a1, a2, a3, a4, a5⟩ := J.2.2.2.1 i hk
    rw [hg] at a3 a4 a5
    have ka := a3.1
    have a51 := a5.1
    have i1 : z_in (nI i) 12 = true := z_in_nI (by omega) (by decide)
    have i2 : (nI i).toNatClampNeg = i := z_cl (by omega)
    rw [E158_4, y_lost_s]
    simp only [g_52_2, g_52_3, z_bs, J.2.2.1, l_55 i1, i2, a51, o_52, nI_1]
    rw [if_neg (nI_ge hk (by omega))]
    by_cases c1 : m.1 = 0
    · rw [if_neg (show ¬ ¬ nI m.1 = (0 : Int32) from fun q => q (by rw [c1]; rfl))]
      obtain ⟨S1, e1, e2⟩ := M157 (L := L) (sl := sl) hk ht hst hst1 J h84 hC hV
      rw [hg] at e1
      rw [e1]
      simp only [z_bs]
      have hih := fun n => ih (i + 1) n S1 hd (by omega) (J_mov_wf2 J e2) ((e2.2 11 (by decide)).trans h84) (by rw [e2.1 53 (by decide) (by decide) (by decide) (by decide) (by decide)]; exact hC) (by rw [e2.1 54 (by decide) (by decide) (by decide) (by decide) (by decide)]; exact hV)
      rcases y_esc_val (ms := ms) (sz := m.2.1) (t := t) (st := st) (C := C) (V := V) 101 (fun q => decide (q = y_P m t)) 0 0 with h | ⟨w, h1, h2⟩
      · have c2 : y_sv ms t st C V m = -9 := h
        have hb : y_l1b ms t st C V m = true := by unfold y_l1b; rw [decide_eq_true c1, decide_eq_true c2]; rfl
        rw [c2, if_neg (show ¬ (0 : Int32) ≤ -9 by decide), if_pos hb]
        obtain ⟨S2, f1, f2⟩ := hih (n + 1)
        exact ⟨S2, by rw [f1, show n + 1 + y_lost ms t st C V r = n + (1 + y_lost ms t st C V r) by omega], y_wf2_tr e2 f2⟩
      · have c3 : y_sv ms t st C V m = nI w := h2
        have c2 : ¬ y_sv ms t st C V m = -9 := fun q => by
          rw [c3] at q
          have := z_eq.mp q
          rw [z_nI (by omega)] at this
          have e9 : (-9 : Int32).toInt = -9 := rfl
          omega
        have hb : y_l1b ms t st C V m = false := by unfold y_l1b; rw [decide_eq_false c2, Bool.and_false]
        rw [c3, if_pos (Int32.not_lt.mp (nI_pos (by omega))), hb, if_neg (by decide), Nat.zero_add]
        obtain ⟨S2, f1, f2⟩ := hih n
        exact ⟨S2, f1, y_wf2_tr e2 f2⟩
    · have hb : y_l1b ms t st C V m = false := by unfold y_l1b; rw [decide_eq_false c1, Bool.false_and]
      rw [if_pos (nI_ne0 (by omega) (by omega)), hb, if_neg (by decide), Nat.zero_add]
      exact ih (i + 1) n S hd (by omega) J h84 hC hV
theorem M51 {t st : Nat} {C V : Nat → Bool} (ht : t ≤ 600) (hst : st ≤ 20) (J : J_mov ms ad Dh S R nx) (h84 : S 8 4 = nI st) (hC : y_rows (S 9) C) (hV : y_rows (S 10) V) : ∃ S', z_cI 6 51 [.inr (.inr (some 8)), .inl (nI t)] (z_mk L Dh S R nx sl) = some (nI (y_lost ms t st C V ms), z_mk L Dh S' R nx sl) ∧ y_ef S S' := by
  obtain ⟨S', e1, e2⟩ := M51_4 (L := L) (sl := sl) ht hst ms 0 0 S rfl (by omega) J h84 hC hV
  rw [Nat.zero_add] at e1
  exact ⟨S', by rw [E51]; exact e1, e2⟩
theorem M158 {t st : Nat} {C V : Nat → Bool} (ht : t ≤ 600) (hst : st ≤ 20) (hst1 : 1 ≤ st) (J : J_mov ms ad Dh S R nx) (h11 : S 52 11 = nI st) (hC : y_bo (S 53) C) (hV : y_bo (S 54) V) : ∃ S', z_cI 7 158 [.inr (.inr (some 52)), .inl (nI t)] (z_mk L Dh S R nx sl) = some (nI (y_lost ms t st C V ms), z_mk L Dh S' R nx sl) ∧ y_wf2 S S' := by
  obtain ⟨S', e1, e2⟩ := M158_4 (L := L) (sl := sl) ht hst hst1 ms 0 0 S rfl (by omega) J h11 hC hV
  rw [Nat.zero_add] at e1
  exact ⟨S', by rw [E158]; exact e1, e2⟩
theorem S_abort (h_I_ref : I_ref S) (hcov : I_cov S) (hsaf : I_saf S) (hstr : I_str S) (J : J_mov ms ad Dh S R nx) (t : Int32) : z_R2 (fun h => z_cI 7 91 [.inr (.inr (some 6)), .inl t] h) (fun h => z_cI 8 159 [.inr (.inr (some 52)), .inl t] h) L Dh S R nx sl A_sav K_dan (fun S' => I_ref S') := by
  obtain ⟨st, hst1, hst, h84, h11⟩ := y_st20 hstr
  by_cases c1 : t < 0
  · refine z_R2_no z_code4 rfl rfl h_I_ref ?_ ?_ (z_no_ref h_I_ref z_code4)
    · show z_cI 7 91 _ _ = _
      rw [E91]
      simp only [M122 z_code4, z_bs, g_6_1, o_8, o_6, c1, Int32.not_le.mpr c1, true_or, or_true, or_self, false_or, or_false, not_true, not_false_eq_true, Classical.not_not, z_10, z_iT, z_iF]
    · show z_cI 8 159 _ _ = _
      rw [E159]
      simp only [M131 z_code4, z_bs, o_52, c1, Int32.not_le.mpr c1, true_or, or_true, or_self, false_or, or_false, not_true, not_false_eq_true, Classical.not_not, z_10, z_iT, z_iF]
  · skip
    by_cases c2 : 600 < t
    · refine z_R2_no z_code6 rfl rfl h_I_ref ?_ ?_ (z_no_ref h_I_ref z_code6)
      · show z_cI 7 91 _ _ = _
        rw [E91]
        simp only [M122 z_code6, z_bs, g_6_1, o_8, o_6, c1, Int32.not_lt.mp c1, c2, Int32.not_le.mpr c2, true_or, or_true, or_self, false_or, or_false, not_true, not_false_eq_true, Classical.not_not, z_10, z_iT, z_iF]
      · show z_cI 8 159 _ _ = _
        rw [E159]
        simp only [M131 z_code6, z_bs, o_52, c1, Int32.not_lt.mp c1, c2, Int32.not_le.mpr c2, true_or, or_true, or_self, false_or, or_false, not_true, not_false_eq_true, Classical.not_not, z_10, z_iT, z_iF]
    · skip
      obtain ⟨tt, htt, rfl⟩ := nI_of2 (n := 600) rfl c1 (Int32.not_lt.mp c2)
      obtain ⟨S1, e1, e2⟩ := M51 (L := L) (sl := sl) htt hst J h84 (y_set_r hcov) (y_set_r hsaf)
      have J1 := J_mov_ef J e2
      obtain ⟨S2, f1, f2⟩ := M158 (L := L) (sl := sl) htt hst hst1 J1 (by rw [e2 52 (by decide) (by decide) (by decide)]; exact h11) (y_set_b (I_cov_ef hcov e2)) (y_set_b (I_saf_ef hsaf e2))
      rw [e2 9 (by decide) (by decide) (by decide), e2 10 (by decide) (by decide) (by decide)] at f1
      refine ⟨nI (y_lost ms tt st (y_set (S 9)) (y_set (S 10)) ms), S1, S2, ?_, ?_, y_sav_fr e2 f2, ?_⟩
      · show z_cI 7 91 _ _ = _
        rw [E91]
        simp only [g_6_1, o_8, o_6, z_bs, c1, Int32.not_lt.mp c1, c2, Int32.not_lt.mp c2, true_or, or_true, or_self, false_or, or_false, not_true, not_false_eq_true, Classical.not_not, z_10, z_iT, z_iF, e1]
      · show z_cI 8 159 _ _ = _
        rw [E159]
        simp only [o_52, z_bs, c1, Int32.not_lt.mp c1, c2, Int32.not_lt.mp c2, true_or, or_true, or_self, false_or, or_false, not_true, not_false_eq_true, Classical.not_not, z_10, z_iT, z_iF, f1]
      · exact I_ref_fr h_I_ref ⟨by rw [f2.1 7 (by decide) (by decide) (by decide) (by decide) (by decide), e2 7 (by decide) (by decide) (by decide)], by rw [f2.1 86 (by decide) (by decide) (by decide) (by decide) (by decide), e2 86 (by decide) (by decide) (by decide)]⟩
end ZSR
