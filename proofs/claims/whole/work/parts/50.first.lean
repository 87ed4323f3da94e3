section ZSM
variable {L : Nat} {Dh : Nat → z_Sh} {S : Nat → Nat → Int32} {R : Nat → Nat → Option Nat} {nx sl : Nat}
variable {ms : List y_Mv} {ad : Nat → Nat}
/-! the first hit -/
def y_qc (S : Nat → Nat → Int32) (s : y_Ft) : Prop := S 8 6 = nI s.1 ∧ (s.1 < 601 → S 8 7 = nI s.2.1 ∧ S 8 8 = nI s.2.2)
def y_qf (S S' : Nat → Nat → Int32) : Prop := (∀ b, b ≠ 12 → b ≠ 8 → S' b = S b) ∧ (∀ k, k ≠ 6 → k ≠ 7 → k ≠ 8 → S' 8 k = S 8 k)
theorem y_qf_id : y_qf S S := ⟨fun _ _ _ => rfl, fun _ _ _ _ => rfl⟩
theorem y_qf_tr {S1 S2 : Nat → Nat → Int32} (h1 : y_qf S S1) (h2 : y_qf S1 S2) : y_qf S S2 := ⟨fun b x y => (h2.1 b x y).trans (h1.1 b x y), fun k x y z => (h2.2 k x y z).trans (h1.2 k x y z)⟩
theorem J_mov_qf {S' : Nat → Nat → Int32} (J : J_mov ms ad Dh S R nx) (e : y_qf S S') : J_mov ms ad Dh S' R nx := J_mov_fr J ⟨e.2 3 (by decide) (by decide) (by decide), by rw [e.1 52 (by decide) (by decide)], e.1 55 (by decide) (by decide), e.1 56 (by decide) (by decide), e.1 57 (by decide) (by decide), e.1 58 (by decide) (by decide), e.1 59 (by decide) (by decide), e.1 60 (by decide) (by decide), e.1 61 (by decide) (by decide), e.1 62 (by decide) (by decide), fun b hb => e.1 b (by omega) (by omega)⟩
theorem y_in_s (h : Nat → Nat) (a j b : Nat) (s : y_Ft) : y_in h a (j + 1) b s = y_in h a j (b + 1) (if h b < s.1 then (h b, a, b) else s) := rfl
theorem y_out_s (H : Nat → Nat → Nat) (n j a : Nat) (s : y_Ft) : y_out H n (j + 1) a s = y_out H n j (a + 1) (y_in (H a) a (n - (a + 1)) (a + 1) s) := rfl
theorem y_in_le {h : Nat → Nat} {a : Nat} (hh : ∀ b, h b ≤ 601) : ∀ (j b : Nat) (s : y_Ft), s.1 ≤ 601 → (y_in h a j b s).1 ≤ 601
  | 0, _, _, hs => hs
  | j + 1, b, s, hs => by
    rw [y_in_s]
    refine y_in_le hh j (b + 1) _ ?_
    by_cases c : h b < s.1
    · rw [if_pos c]; exact hh b
    · rw [if_neg c]; exact hs
theorem y_H_le (ms : List y_Mv) (a b : Nat) : y_H ms a b ≤ 601 := by
  unfold y_H
  split
  · split
    · exact y_hit_le _ _
    · omega
  · omega
theorem y_H_eq {a b : Nat} (ha : a < ms.length) (hb : b < ms.length) : y_H ms a b = if (ms[a]).1 = 1 ∨ (ms[b]).1 = 1 then y_hit ms[a] ms[b] else 601 := by
  unfold y_H
  rw [List.getElem?_eq_getElem ha, List.getElem?_eq_getElem hb]
theorem M49_60 {a b : Nat} {s : y_Ft} (hab : a < b) (J : J_mov ms ad Dh S R nx) (H : J_hit ms S) (hb : b < ms.length) (Q : y_qc S s) (hs : s.1 ≤ 601) (hw : (ms[a]).1 = 1 ∨ (ms[b]).1 = 1) : ∃ S', L49_60 (some 8) (nI a) (nI b) 1 (z_mk L Dh S R nx sl) = L49_21 (some 8) (nI a) (nI (b + 1)) (z_mk L Dh S' R nx sl) ∧ y_qc S' (if y_H ms a b < s.1 then (y_H ms a b, a, b) else s) ∧ J_hit ms S' ∧ y_qf S S' := by
  have h12 := J.1
  obtain ⟨S1, e1, e2, e3⟩ := M47 (L := L) (Dh := Dh) (R := R) (nx := nx) (sl := sl) J H hab hb
  have hle := y_hit_le ms[a] ms[b]
  have qf1 : y_qf S S1 := ⟨fun c x _ => e2 c x, fun k _ _ _ => by rw [e2 8 (by decide)]⟩
  have J1 : J_mov ms ad Dh S1 R nx := J_mov_qf J qf1
  obtain ⟨S2, f1, f2, f3⟩ := M47 (L := L) (Dh := Dh) (R := R) (nx := nx) (sl := sl) J1 e3 hab hb
  have qf2 : y_qf S1 S2 := ⟨fun c x _ => f2 c x, fun k _ _ _ => by rw [f2 8 (by decide)]⟩
  have s6 : S1 8 6 = nI s.1 := by rw [e2 8 (by decide)]; exact Q.1
  rw [E49_60]
  simp only [z_10, z_iF, o_8, z_bs, e1, g_8_6, s6, nI_1]
  rw [y_H_eq (by omega) hb, if_pos hw]
  by_cases c : y_hit ms[a] ms[b] < s.1
  · rw [if_neg (nI_ge c (by omega)), if_pos c, f1]
    simp only [z_bs, p_8_6, p_8_7, p_8_8]
    refine ⟨_, rfl, ⟨rfl, fun _ => ⟨rfl, rfl⟩⟩, ?_, y_qf_tr qf1 (y_qf_tr qf2 ⟨fun c x y => ?_, fun k x y z => ?_⟩)⟩
    · exact J_hit_fr f3 (by rw [z_ups_ne (by decide), z_ups_ne (by decide), z_ups_ne (by decide)])
    · rw [z_ups_ne y, z_ups_ne y, z_ups_ne y]
    · rw [z_upsE, if_pos rfl, if_neg z, z_upsE, if_pos rfl, if_neg y, z_upsE, if_pos rfl, if_neg x]
  · rw [if_pos (nI_le (by omega) (by omega)), if_neg c]
    refine ⟨S1, rfl, ?_, e3, qf1⟩
    unfold y_qc
    rw [e2 8 (by decide)]
    exact Q
theorem M49_21 {a : Nat} (ha : a < ms.length) : ∀ (j b : Nat) (S : Nat → Nat → Int32) (s : y_Ft), a < b → b + j = ms.length → J_mov ms ad Dh S R nx → J_hit ms S → y_qc S s → s.1 ≤ 601 → ∃ S', L49_21 (some 8) (nI a) (nI b) (z_mk L Dh S R nx sl) = L49_9 (some 8) (nI (a + 1)) (z_mk L Dh S' R nx sl) ∧ y_qc S' (y_in (y_H ms a) a j b s) ∧ J_hit ms S' ∧ y_qf S S' := by
  intro j
  induction j with
  | zero =>
    intro b S s hab hb J H Q hs
    have h12 := J.1
    refine ⟨S, ?_, Q, H, y_qf_id⟩
    rw [E49_21]
    simp only [g_8_3, z_bs, J.2.1]
    rw [if_pos (nI_le (by omega) (by omega)), nI_1]
  | succ j ih =>
    intro b S s hab hb J H Q hs
    have h12 := J.1
    have hbl : b < ms.length := by omega
    obtain ⟨a1, a2, a3, a4, a5⟩ := J.2.2.2.1 a ha
    obtain ⟨b1, b2, b3, b4, b5⟩ := J.2.2.2.1 b hbl
    have step : ∀ S1, L49_21 (some 8) (nI a) (nI b) (z_mk L Dh S R nx sl) = L49_21 (some 8) (nI a) (nI (b + 1)) (z_mk L Dh S1 R nx sl) → y_qc S1 (if y_H ms a b < s.1 then (y_H ms a b, a, b) else s) → J_hit ms S1 → y_qf S S1 → ∃ S', L49_21 (some 8) (nI a) (nI b) (z_mk L Dh S R nx sl) = L49_9 (some 8) (nI (a + 1)) (z_mk L Dh S' R nx sl) ∧ y_qc S' (y_in (y_H ms a) a (j + 1) b s) ∧ J_hit ms S' ∧ y_qf S S' := fun S1 x1 x2 x3 x4 => by
      have hs' : (if y_H ms a b < s.1 then (y_H ms a b, a, b) else s).1 ≤ 601 := by
        by_cases c : y_H ms a b < s.1
        · rw [if_pos c]; exact y_H_le _ _ _
        · rw [if_neg c]; exact hs
      obtain ⟨S2, y1, y2, y3, y4⟩ := ih (b + 1) S1 _ (by omega) (by omega) (J_mov_qf J x4) x3 x2 hs'
      refine ⟨S2, by rw [x1, y1], ?_, y3, y_qf_tr x4 y4⟩
      rw [y_in_s]
      exact y2
    have E : L49_21 (some 8) (nI a) (nI b) (z_mk L Dh S R nx sl) = if (ms[a]).1 = 1 ∨ (ms[b]).1 = 1 then L49_60 (some 8) (nI a) (nI b) 1 (z_mk L Dh S R nx sl) else L49_60 (some 8) (nI a) (nI b) 0 (z_mk L Dh S R nx sl) := by
      have ka := a3.1
      have kb := b3.1
      rw [E49_21]
      simp only [g_8_3, g_8_2, z_bs, J.2.1]
      rw [if_neg (nI_ge hbl (by omega)), l_11 (z_in_nI (show a < 12 by omega) (by decide)), l_11 (z_in_nI (show b < 12 by omega) (by decide)), z_cl (show a < 2147483648 by omega), z_cl (show b < 2147483648 by omega), a1, b1]
      simp only [z_bs, y_g0 a4.1, y_g0 b4.1, a4.2.1, b4.2.1]
      by_cases c1 : (ms[a]).1 = 1
      · rw [if_pos (by rw [c1]; rfl), if_pos (Or.inl c1)]
      · rw [if_neg (show ¬ nI (ms[a]).1 = (1 : Int32) from fun q => c1 ((nI_eq (b := 1) (by omega) (by decide)).mp q))]
        by_cases c2 : (ms[b]).1 = 1
        · rw [if_neg (fun q => q (by rw [c2]; rfl)), if_pos (Or.inr c2)]
        · rw [if_pos (show ¬ nI (ms[b]).1 = (1 : Int32) from fun q => c2 ((nI_eq (b := 1) (by omega) (by decide)).mp q)), if_neg (fun q => q.elim c1 c2)]
    by_cases c : (ms[a]).1 = 1 ∨ (ms[b]).1 = 1
    · obtain ⟨S1, x1, x2, x3, x4⟩ := M49_60 (L := L) (Dh := Dh) (R := R) (nx := nx) (sl := sl) hab J H hbl Q hs c
      exact step S1 (by rw [E, if_pos c, x1]) x2 x3 x4
    · refine step S ?_ ?_ H y_qf_id
      · rw [E, if_neg c, E49_60, if_pos rfl, nI_1]
      · rw [y_H_eq ha hbl, if_neg c, if_neg (by omega)]
        exact Q
theorem M49_9 : ∀ (j a : Nat) (S : Nat → Nat → Int32) (s : y_Ft), a + j = ms.length → J_mov ms ad Dh S R nx → J_hit ms S → y_qc S s → s.1 ≤ 601 → ∃ S', L49_9 (some 8) (nI a) (z_mk L Dh S R nx sl) = some (if (y_out (y_H ms) ms.length j a s).1 < 601 then 1 else 0, z_mk L Dh S' R nx sl) ∧ y_qc S' (y_out (y_H ms) ms.length j a s) ∧ J_hit ms S' ∧ y_qf S S' := by
  intro j
  induction j with
  | zero =>
    intro a S s ha J H Q hs
    have h12 := J.1
    refine ⟨S, ?_, Q, H, y_qf_id⟩
    rw [E49_9]
    simp only [g_8_3, g_8_6, z_bs, J.2.1, Q.1]
    rw [if_pos (nI_le (by omega) (by omega))]
    show _ = some (if s.1 < 601 then (1 : Int32) else 0, _)
    by_cases c : s.1 < 601
    · rw [if_pos c, if_neg (show ¬ (600 : Int32) < nI s.1 from Int32.not_lt.mpr (nI_le (b := 600) (by omega) (by decide)))]
    · rw [if_neg c, if_pos (show (600 : Int32) < nI s.1 from nI_lt (a := 600) (by omega) (by omega))]
  | succ j ih =>
    intro a S s ha J H Q hs
    have h12 := J.1
    have hal : a < ms.length := by omega
    obtain ⟨S1, e1, e2, e3, e4⟩ := M49_21 (L := L) (Dh := Dh) (R := R) (nx := nx) (sl := sl) hal (ms.length - (a + 1)) (a + 1) S s (by omega) (by omega) J H Q hs
    obtain ⟨S2, f1, f2, f3, f4⟩ := ih (a + 1) S1 _ (by omega) (J_mov_qf J e4) e3 e2 (y_in_le (y_H_le ms a) _ _ _ hs)
    refine ⟨S2, ?_, f2, f3, y_qf_tr e4 f4⟩
    rw [E49_9]
    simp only [g_8_3, z_bs, J.2.1]
    rw [if_neg (nI_ge hal (by omega)), nI_1, e1, f1]
    rfl
theorem M49 (J : J_mov ms ad Dh S R nx) (H : J_hit ms S) : ∃ S', z_cI 6 49 [.inr (.inr (some 8))] (z_mk L Dh S R nx sl) = some (if (y_fst ms).1 < 601 then 1 else 0, z_mk L Dh S' R nx sl) ∧ y_qc S' (y_fst ms) ∧ J_hit ms S' ∧ y_qf S S' := by
  have qf : y_qf S (z_ups S 8 6 601) := ⟨fun b _ y => z_ups_ne y, fun k x _ _ => by rw [z_upsE, if_pos rfl, if_neg x]⟩
  obtain ⟨S1, e1, e2, e3, e4⟩ := M49_9 (L := L) (Dh := Dh) (R := R) (nx := nx) (sl := sl) ms.length 0 (z_ups S 8 6 601) (601, 0, 0) (by omega) (J_mov_qf J qf) (J_hit_fr H rfl) ⟨rfl, fun q => absurd q (by decide)⟩ (by decide)
  refine ⟨S1, ?_, e2, e3, y_qf_tr qf e4⟩
  rw [E49]
  simp only [p_8_6, z_bs]
  exact e1
/-! the model's -/
def y_qm (S : Nat → Nat → Int32) (s : y_Ft) : Prop := S 85 0 = y_f9 s s.1 ∧ S 85 1 = y_f9 s s.2.1 ∧ S 85 2 = y_f9 s s.2.2
def y_qg (S S' : Nat → Nat → Int32) : Prop := ∀ b, b ≠ 80 → b ≠ 85 → S' b = S b
theorem J_mov_qg {S' : Nat → Nat → Int32} (J : J_mov ms ad Dh S R nx) (e : y_qg S S') : J_mov ms ad Dh S' R nx := J_mov_fr J ⟨by rw [e 8 (by decide) (by decide)], by rw [e 52 (by decide) (by decide)], e 55 (by decide) (by decide), e 56 (by decide) (by decide), e 57 (by decide) (by decide), e 58 (by decide) (by decide), e 59 (by decide) (by decide), e 60 (by decide) (by decide), e 61 (by decide) (by decide), e 62 (by decide) (by decide), fun b hb => e b (by omega) (by omega)⟩
theorem y_m9 : ((-9 : Int32) < 0) = True := eq_true (by decide)
theorem M149_84 {a b : Nat} {s : y_Ft} (hab : a < b) (J : J_mov ms ad Dh S R nx) (hb : b < ms.length) (Q : y_qm S s) (hs : s.1 ≤ 601) (hw : (ms[a]).1 = 1 ∨ (ms[b]).1 = 1) : ∃ S', L149_84 (some 52) (nI a) (nI b) (z_mk L Dh S R nx sl) = L149_55 (some 52) (nI a) (nI (b + 1)) (z_mk L Dh S' R nx sl) ∧ y_qm S' (if y_H ms a b < s.1 then (y_H ms a b, a, b) else s) ∧ y_qg S S' := by
  have h12 := J.1
  obtain ⟨a1, a2, a3, a4, a5⟩ := J.2.2.2.1 a (by omega)
  obtain ⟨b1, b2, b3, b4, b5⟩ := J.2.2.2.1 b hb
  obtain ⟨S1, e1, e2⟩ := M147 (L := L) (Dh := Dh) (R := R) (nx := nx) (sl := sl) (show a < 12 by omega) (show b < 12 by omega) a3 b3 a5 b5
  have hle := y_hit_le ms[a] ms[b]
  have hQ : y_qm S1 s := by unfold y_qm; rw [e2 85 (by decide)]; exact Q
  have q0 := hQ.1
  rw [E149_84, y_H_eq (by omega) hb, if_pos hw]
  simp only [o_52, z_bs, e1, nI_1]
  have e117 : y_hit ms[a] ms[b] < 601 → y_hit ms[a] ms[b] < s.1 → ∃ S', L149_117 (some 52) (nI a) (nI b) (nI (y_hit ms[a] ms[b])) (z_mk L Dh S1 R nx sl) = L149_55 (some 52) (nI a) (nI (b + 1)) (z_mk L Dh S' R nx sl) ∧ y_qm S' (if y_hit ms[a] ms[b] < s.1 then (y_hit ms[a] ms[b], a, b) else s) ∧ y_qg S S' := fun q1 q2 => by
    rw [E149_117, if_pos q2]
    simp only [g_52_51, z_bs, s_85 (i := 0) rfl, s_85 (i := 1) rfl, s_85 (i := 2) rfl, nI_1]
    refine ⟨_, rfl, ⟨?_, ?_, ?_⟩, fun c x y => ?_⟩
    · unfold y_f9; rw [if_pos q1]; rfl
    · unfold y_f9; rw [if_pos q1]; rfl
    · unfold y_f9; rw [if_pos q1]; rfl
    · rw [z_ups_ne y, z_ups_ne y, z_ups_ne y, e2 c x]
  by_cases c1 : y_hit ms[a] ms[b] < 601
  · rw [if_pos c1, if_neg (nI_pos (by omega))]
    simp only [g_52_51, z_bs, l_85 (i := 0) rfl]
    rw [show S1 85 (Int32.toNatClampNeg 0) = y_f9 s s.1 from q0]
    by_cases c2 : s.1 < 601
    · have : y_f9 s s.1 = nI s.1 := by unfold y_f9; rw [if_pos c2]
      rw [this, if_neg (nI_pos (by omega))]
      by_cases c3 : y_hit ms[a] ms[b] < s.1
      · rw [if_pos (nI_lt c3 (by omega))]
        exact e117 c1 c3
      · rw [if_neg (Int32.not_lt.mpr (nI_le (by omega) (by omega))), if_neg c3]
        exact ⟨S1, rfl, hQ, fun c x _ => e2 c x⟩
    · have : y_f9 s s.1 = -9 := by unfold y_f9; rw [if_neg c2]
      rw [this, if_pos (by decide)]
      exact e117 c1 (by omega)
  · rw [if_neg c1, if_pos (by decide), if_neg (by omega)]
    exact ⟨S1, rfl, hQ, fun c x _ => e2 c x⟩
theorem M149_55 {a : Nat} (ha : a < ms.length) : ∀ (j b : Nat) (S : Nat → Nat → Int32) (s : y_Ft), a < b → b + j = ms.length → J_mov ms ad Dh S R nx → y_qm S s → s.1 ≤ 601 → ∃ S', L149_55 (some 52) (nI a) (nI b) (z_mk L Dh S R nx sl) = L149_43 (some 52) (nI (a + 1)) (z_mk L Dh S' R nx sl) ∧ y_qm S' (y_in (y_H ms a) a j b s) ∧ y_qg S S' := by
  intro j
  induction j with
  | zero =>
    intro b S s hab hb J Q hs
    have h12 := J.1
    refine ⟨S, ?_, Q, fun _ _ _ => rfl⟩
    rw [E149_55]
    simp only [g_52_2, z_bs, J.2.2.1]
    rw [if_pos (nI_le (by omega) (by omega)), nI_1]
  | succ j ih =>
    intro b S s hab hb J Q hs
    have h12 := J.1
    have hbl : b < ms.length := by omega
    obtain ⟨a1, a2, a3, a4, a5⟩ := J.2.2.2.1 a ha
    obtain ⟨b1, b2, b3, b4, b5⟩ := J.2.2.2.1 b hbl
    have step : ∀ S1, L149_55 (some 52) (nI a) (nI b) (z_mk L Dh S R nx sl) = L149_55 (some 52) (nI a) (nI (b + 1)) (z_mk L Dh S1 R nx sl) → y_qm S1 (if y_H ms a b < s.1 then (y_H ms a b, a, b) else s) → y_qg S S1 → ∃ S', L149_55 (some 52) (nI a) (nI b) (z_mk L Dh S R nx sl) = L149_43 (some 52) (nI (a + 1)) (z_mk L Dh S' R nx sl) ∧ y_qm S' (y_in (y_H ms a) a (j + 1) b s) ∧ y_qg S S' := fun S1 x1 x2 x4 => by
      have hs' : (if y_H ms a b < s.1 then (y_H ms a b, a, b) else s).1 ≤ 601 := by
        by_cases c : y_H ms a b < s.1
        · rw [if_pos c]; exact y_H_le _ _ _
        · rw [if_neg c]; exact hs
      obtain ⟨S2, y1, y2, y4⟩ := ih (b + 1) S1 _ (by omega) (by omega) (J_mov_qg J x4) x2 hs'
      refine ⟨S2, by rw [x1, y1], ?_, fun c x y => (y4 c x y).trans (x4 c x y)⟩
      rw [y_in_s]
      exact y2
    have E : L149_55 (some 52) (nI a) (nI b) (z_mk L Dh S R nx sl) = if (ms[a]).1 = 1 ∨ (ms[b]).1 = 1 then L149_84 (some 52) (nI a) (nI b) (z_mk L Dh S R nx sl) else L149_55 (some 52) (nI a) (nI (b + 1)) (z_mk L Dh S R nx sl) := by
      have ka := a3.1
      have kb := b3.1
      rw [E149_55]
      simp only [g_52_2, g_52_3, z_bs, J.2.2.1]
      rw [if_neg (nI_ge hbl (by omega)), l_55 (z_in_nI (show a < 12 by omega) (by decide)), l_55 (z_in_nI (show b < 12 by omega) (by decide)), z_cl (show a < 2147483648 by omega), z_cl (show b < 2147483648 by omega), a5.1, b5.1, nI_1]
      simp only [z_bs]
      by_cases c1 : (ms[a]).1 = 1
      · rw [if_pos (nI_ne0 (by omega) (by omega)), if_pos (Or.inl c1)]
      · have z1 : (ms[a]).1 = 0 := by omega
        rw [z1, if_neg (fun q => q rfl)]
        by_cases c2 : (ms[b]).1 = 1
        · rw [if_pos (nI_ne0 (by omega) (by omega)), if_pos (Or.inr c2)]
        · have z2 : (ms[b]).1 = 0 := by omega
          rw [z2, if_neg (fun q => q rfl), if_neg (by omega)]
    by_cases c : (ms[a]).1 = 1 ∨ (ms[b]).1 = 1
    · obtain ⟨S1, x1, x2, x4⟩ := M149_84 (L := L) (Dh := Dh) (R := R) (nx := nx) (sl := sl) hab J hbl Q hs c
      exact step S1 (by rw [E, if_pos c, x1]) x2 x4
    · refine step S (by rw [E, if_neg c]) ?_ (fun _ _ _ => rfl)
      rw [y_H_eq ha hbl, if_neg c, if_neg (by omega)]
      exact Q
theorem M149_43 : ∀ (j a : Nat) (S : Nat → Nat → Int32) (s : y_Ft), a + j = ms.length → J_mov ms ad Dh S R nx → y_qm S s → s.1 ≤ 601 → ∃ S', L149_43 (some 52) (nI a) (z_mk L Dh S R nx sl) = some (z_mk L Dh S' R nx sl) ∧ y_qm S' (y_out (y_H ms) ms.length j a s) ∧ y_qg S S' := by
  intro j
  induction j with
  | zero =>
    intro a S s ha J Q hs
    have h12 := J.1
    refine ⟨S, ?_, Q, fun _ _ _ => rfl⟩
    rw [E149_43]
    simp only [g_52_2, z_bs, J.2.2.1]
    rw [if_pos (nI_le (by omega) (by omega))]
  | succ j ih =>
    intro a S s ha J Q hs
    have h12 := J.1
    have hal : a < ms.length := by omega
    obtain ⟨S1, e1, e2, e4⟩ := M149_55 (L := L) (Dh := Dh) (R := R) (nx := nx) (sl := sl) hal (ms.length - (a + 1)) (a + 1) S s (by omega) (by omega) J Q hs
    obtain ⟨S2, f1, f2, f4⟩ := ih (a + 1) S1 _ (by omega) (J_mov_qg J e4) e2 (y_in_le (y_H_le ms a) _ _ _ hs)
    refine ⟨S2, ?_, f2, fun c x y => (f4 c x y).trans (e4 c x y)⟩
    rw [E149_43]
    simp only [g_52_2, z_bs, J.2.2.1]
    rw [if_neg (nI_ge hal (by omega)), nI_1, e1, f1]
theorem M149 (J : J_mov ms ad Dh S R nx) {k : Nat} (hk : k < 100000) (E : J_ed k ms S) : ∃ S', z_cV 6 149 [.inr (.inr (some 52))] (z_mk L Dh S R nx sl) = some (z_mk L Dh S' R nx sl) ∧ y_qm S' (y_fst ms) ∧ J_ed k ms S' ∧ (∀ b, b ≠ 80 → b ≠ 85 → b ≠ 52 → S' b = S b) ∧ (∀ q, q ≠ 50 → S' 52 q = S 52 q) := by
  obtain ⟨e, h1, h2, h3, h4⟩ := id E
  rw [E149]
  simp only [g_52_49, g_52_50, z_bs]
  by_cases c : S 52 50 = S 52 49
  · rw [if_neg (fun q => q c)]
    exact ⟨S, rfl, h4 (c.trans h2), E, fun _ _ _ _ => rfl, fun _ _ => rfl⟩
  · rw [if_pos c]
    simp only [p_52_50, z_bs]
    have e22 : L149_22 (some 52) 0 (z_mk L Dh (z_ups S 52 50 (S 52 49)) R nx sl) = L149_43 (some 52) 0 (z_mk L Dh (z_ups (z_ups (z_ups (z_ups S 52 50 (S 52 49)) 85 0 (-9)) 85 1 (-9)) 85 2 (-9)) R nx sl) := by
      rw [E149_22, if_neg (by decide)]
      simp only [g_52_51, z_bs, s_85 (i := 0) rfl]
      rw [E149_22, if_neg (by decide)]
      simp only [g_52_51, z_bs, s_85 (i := 0 + 1) rfl]
      rw [E149_22, if_neg (by decide)]
      simp only [g_52_51, z_bs, s_85 (i := 0 + 1 + 1) rfl]
      rw [E149_22, if_pos (by decide)]
      rfl
    obtain ⟨T, hT⟩ : ∃ T, T = z_ups (z_ups (z_ups (z_ups S 52 50 (S 52 49)) 85 0 (-9)) 85 1 (-9)) 85 2 (-9) := ⟨_, rfl⟩
    rw [e22, ← hT]
    have t1 : ∀ b, b ≠ 85 → b ≠ 52 → T b = S b := fun b x y => by rw [hT, z_ups_ne x, z_ups_ne x, z_ups_ne x, z_ups_ne y]
    have t2 : ∀ q, q ≠ 50 → T 52 q = S 52 q := fun q hq => by rw [hT, z_ups_ne (by decide), z_ups_ne (by decide), z_ups_ne (by decide), z_upsE, if_pos rfl, if_neg hq]
    have t3 : T 52 50 = S 52 49 := by rw [hT]; rfl
    have J1 : J_mov ms ad Dh T R nx := J_mov_fr J ⟨by rw [t1 8 (by decide) (by decide)], t2 2 (by decide), t1 55 (by decide) (by decide), t1 56 (by decide) (by decide), t1 57 (by decide) (by decide), t1 58 (by decide) (by decide), t1 59 (by decide) (by decide), t1 60 (by decide) (by decide), t1 61 (by decide) (by decide), t1 62 (by decide) (by decide), fun b hb => t1 b (by omega) (by omega)⟩
    have Q : y_qm T (601, 0, 0) := by rw [hT]; exact ⟨rfl, rfl, rfl⟩
    obtain ⟨S2, e1, e2, e3⟩ := M149_43 (L := L) (Dh := Dh) (R := R) (nx := nx) (sl := sl) ms.length 0 T (601, 0, 0) (by omega) J1 Q (by decide)
    refine ⟨S2, e1, e2, ⟨e, h1, ?_, Or.inr ⟨e, Nat.le_refl _, ?_⟩, fun _ => e2⟩, fun b x y z => (e3 b x y).trans (t1 b y z), fun q hq => by rw [e3 52 (by decide) (by decide)]; exact t2 q hq⟩
    · rw [e3 52 (by decide) (by decide), t2 49 (by decide)]; exact h2
    · rw [e3 52 (by decide) (by decide), t3]; exact h2
theorem J_ed_le {k k' : Nat} (E : J_ed k ms S) (h : k ≤ k') : J_ed k' ms S := by
  obtain ⟨e, h1, h2⟩ := E
  exact ⟨e, by omega, h2⟩
def A_fst (a : Nat) : Bool := decide (a ∈ [7, 8, 12, 80, 85, 86])
def K_fst (k : Nat) : Bool := decide (k ∈ [50])
theorem S_firstHit (h_I_ref : I_ref S) (J : J_mov ms ad Dh S R nx) (H : J_hit ms S) {kk : Nat} (hkk : kk < 90000) (E : J_ed kk ms S) (x : Int32) : z_R2 (fun h => z_cI 7 88 [.inr (.inr (some 6)), .inl x] h) (fun h => z_cI 7 150 [.inr (.inr (some 52)), .inl x] h) L Dh S R nx sl A_fst K_fst (fun S' => I_ref S' ∧ J_hit ms S' ∧ J_ed (kk + 1) ms S' ∧ ∀ k, k ≠ 6 → k ≠ 7 → k ≠ 8 → S' 8 k = S 8 k) := by
  by_cases d1 : x < 0 ∨ 2 < x
  · refine z_R2_no z_code2 rfl rfl h_I_ref ?_ ?_ ⟨z_no_ref h_I_ref z_code2, J_hit_no H, J_ed_fr E rfl rfl rfl, fun _ _ _ _ => rfl⟩
    · show z_cI 7 88 _ _ = _
      rw [E88]
      simp only [o_6, z_bs, M122 z_code2]
      rcases d1 with c | c
      · rw [if_pos c]
      · by_cases c0 : x < 0
        · rw [if_pos c0]
        · rw [if_neg c0, if_neg (Int32.not_le.mpr c)]
    · show z_cI 7 150 _ _ = _
      rw [E150]
      simp only [o_52, z_bs, M131 z_code2]
      rcases d1 with c | c
      · rw [if_pos c]
      · by_cases c0 : x < 0
        · rw [if_pos c0]
        · rw [if_neg c0, if_neg (Int32.not_le.mpr c)]
  · have d2 : ¬ x < 0 := fun q => d1 (Or.inl q)
    have d3 : x ≤ 2 := Int32.not_lt.mp (fun q => d1 (Or.inr q))
    obtain ⟨w, hw, rfl⟩ := nI_of2 (n := 2) rfl d2 d3
    obtain ⟨S1, e1, e2, e3, e4⟩ := M49 (L := L) (Dh := Dh) (R := R) (nx := nx) (sl := sl) J H
    have J1 := J_mov_qf J e4
    have E1 : J_ed (kk + 1) ms S1 := J_ed_fr E (by rw [e4.1 52 (by decide) (by decide)]) (by rw [e4.1 52 (by decide) (by decide)]) (e4.1 85 (by decide) (by decide))
    obtain ⟨S2, f1, f2, f3, f4, f5⟩ := M149 (L := L) (Dh := Dh) (R := R) (nx := nx) (sl := sl) J1 (show kk + 1 < 100000 by omega) E1
    refine ⟨y_f9 (y_fst ms) (if w = 0 then (y_fst ms).1 else if w = 1 then (y_fst ms).2.1 else (y_fst ms).2.2), S1, S2, ?_, ?_, ⟨fun b hb h52 => ?_, fun k hk => ?_⟩, ?_, J_hit_fr e3 (f4 12 (by decide) (by decide) (by decide)), f3, fun k x y z => ?_⟩
    · show z_cI 7 88 _ _ = _
      rw [E88, if_neg d2, if_pos d3]
      simp only [g_6_1, o_8, z_bs, e1]
      unfold y_f9
      by_cases c : (y_fst ms).1 < 601
      · simp only [if_pos c, z_10, not_false_eq_true, z_iT, g_6_1, g_8_6, g_8_7, g_8_8, z_bs, e2.1, (e2.2 c).1, (e2.2 c).2]
        rcases (show w = 0 ∨ w = 1 ∨ w = 2 by omega) with rfl | rfl | rfl
        · rw [if_neg (fun q => q rfl)]; rfl
        · rw [if_pos (by decide), if_neg (fun q => q rfl)]; rfl
        · rw [if_pos (by decide), if_pos (by decide)]; rfl
      · simp only [if_neg c, not_true, z_e00, z_iF]
    · show z_cI 7 150 _ _ = _
      rw [E150, if_neg d2, if_pos d3]
      simp only [o_52, z_bs, f1, g_52_51, l_85 (z_in_nI (show w < 3 by omega) (by decide)), z_cl (show w < 2147483648 by omega)]
      rcases (show w = 0 ∨ w = 1 ∨ w = 2 by omega) with rfl | rfl | rfl
      · rw [f2.1]; rfl
      · rw [f2.2.1]; rfl
      · rw [f2.2.2]; rfl
    · unfold A_fst at hb
      have hb := of_decide_eq_false hb
      rw [f4 b (fun q => hb (by rw [q]; decide)) (fun q => hb (by rw [q]; decide)) h52, e4.1 b (fun q => hb (by rw [q]; decide)) (fun q => hb (by rw [q]; decide))]
    · unfold K_fst at hk
      have hk := of_decide_eq_false hk
      rw [f5 k (fun q => hk (by rw [q]; decide)), e4.1 52 (by decide) (by decide)]
    · exact I_ref_fr h_I_ref ⟨by rw [f4 7 (by decide) (by decide) (by decide), e4.1 7 (by decide) (by decide)], by rw [f4 86 (by decide) (by decide) (by decide), e4.1 86 (by decide) (by decide)]⟩
    · rw [f4 8 (by decide) (by decide) (by decide)]; exact e4.2 k x y z
end ZSM
