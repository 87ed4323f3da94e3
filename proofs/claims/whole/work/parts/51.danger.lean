section ZSN
variable {L : Nat} {Dh : Nat → z_Sh} {S : Nat → Nat → Int32} {R : Nat → Nat → Option Nat} {nx sl : Nat}
variable {ms : List y_Mv} {ad : Nat → Nat}
/-! danger -/
def y_d1 (sz t c : Nat) (m : y_Mv) : Bool := decide (m.1 = 1) && y_cn c (sz + m.2.1) m t (m.2.2.2.2.1 + 1) 0
def y_dg (ms : List y_Mv) (sz t c : Nat) : Bool := ms.any (y_d1 sz t c)
theorem M50_3 (J : J_mov ms ad Dh S R nx) {sz c t : Nat} (hz : sz ≤ 3) (hc : c < 400) (ht : t ≤ 600) : ∀ (r : List y_Mv) (i : Nat), ms.drop i = r → i ≤ ms.length → L50_3 (some 8) (nI sz) (nI c) (nI t) (nI i) (z_mk L Dh S R nx sl) = some (if r.any (y_d1 sz t c) = true then 1 else 0, z_mk L Dh S R nx sl) := by
  have h12 := J.1
  intro r
  induction r with
  | nil =>
    intro i hr hi
    have hk : ms.length ≤ i := List.drop_eq_nil_iff.mp hr
    rw [E50_3]
    simp only [g_8_3, z_bs, J.2.1]
    rw [if_pos (nI_le hk (by omega))]
    rfl
  | cons m r ih =>
    intro i hr hi
    obtain ⟨hk, hg, hd⟩ := y_drop_cons hr
    have ih := ih (i + 1) hd (by omega)
    obtain ⟨a1, a2, a3, a4, a5⟩ := J.2.2.2.1 i hk
    rw [hg] at a3 a4 a5
    have ka := a3.1
    have ks := a3.2.1
    rw [E50_3, List.any_cons]
    simp only [g_8_3, g_8_2, z_bs, J.2.1]
    rw [if_neg (nI_ge hk (by omega)), l_11 (z_in_nI (show i < 12 by omega) (by decide)), z_cl (show i < 2147483648 by omega), a1]
    simp only [z_bs, y_g0 a4.1, y_g1 a4.1, a4.2.1, a4.2.2.1, nI_1, o_8, nI_add, M45 a4 a3 hc ht (show sz + m.2.1 < 1000 by omega)]
    by_cases c1 : m.1 = 1
    · rw [if_neg (show ¬ ¬ nI m.1 = (1 : Int32) from fun q => q (by rw [c1]; rfl))]
      have : y_d1 sz t c m = y_cn c (sz + m.2.1) m t (m.2.2.2.2.1 + 1) 0 := by unfold y_d1; rw [decide_eq_true c1, Bool.true_and]
      rw [this]
      by_cases c2 : y_cn c (sz + m.2.1) m t (m.2.2.2.2.1 + 1) 0 = true
      · simp only [c2, z_tt, z_iT, z_10, z_iF, Bool.true_or]
      · have c2' := Bool.eq_false_iff.mpr c2
        simp only [c2', z_ff, z_iF, z_e00, z_iT, Bool.false_or]
        exact ih
    · rw [if_pos (show ¬ nI m.1 = (1 : Int32) from fun q => c1 ((nI_eq (b := 1) (by omega) (by decide)).mp q))]
      have : y_d1 sz t c m = false := by unfold y_d1; rw [decide_eq_false c1, Bool.false_and]
      rw [this, Bool.false_or]
      exact ih
theorem M50 (J : J_mov ms ad Dh S R nx) {sz c t : Nat} (hz : sz ≤ 3) (hc : c < 400) (ht : t ≤ 600) : z_cI 4 50 [.inr (.inr (some 8)), .inl (nI sz), .inl (nI c), .inl (nI t)] (z_mk L Dh S R nx sl) = some (if y_dg ms sz t c = true then 1 else 0, z_mk L Dh S R nx sl) := by
  rw [E50]
  exact M50_3 J hz hc ht ms 0 rfl (by omega)
/-! the model's places of cars -/
def y_c1 (m : y_Mv) (sz t : Nat) : Nat → Nat → List (Nat × Nat)
  | 0, _ => []
  | j + 1, l => (y_P m (t - l), m.2.1 + sz) :: y_c1 m sz t j (l + 1)
theorem y_c1_s (m : y_Mv) (sz t j l : Nat) : y_c1 m sz t (j + 1) l = (y_P m (t - l), m.2.1 + sz) :: y_c1 m sz t j (l + 1) := rfl
def y_cl (sz t : Nat) : List y_Mv → List (Nat × Nat)
  | [] => []
  | m :: r => (if m.1 = 1 then y_c1 m sz t (m.2.2.2.2.1 + 1) 0 else []) ++ y_cl sz t r
theorem y_cl_s (sz t : Nat) (m : y_Mv) (r : List y_Mv) : y_cl sz t (m :: r) = (if m.1 = 1 then y_c1 m sz t (m.2.2.2.2.1 + 1) 0 else []) ++ y_cl sz t r := rfl
theorem y_c1_len (m : y_Mv) (sz t : Nat) : ∀ j l, (y_c1 m sz t j l).length = j
  | 0, _ => rfl
  | j + 1, l => by rw [y_c1_s, List.length_cons, y_c1_len m sz t j]
def y_nr (c : Nat) (p : Nat × Nat) : Bool := decide (y_far p.1 c ≤ p.2)
theorem y_c1_any (m : y_Mv) (sz t c : Nat) : ∀ j l, (y_c1 m sz t j l).any (y_nr c) = y_cn c (sz + m.2.1) m t j l
  | 0, _ => rfl
  | j + 1, l => by
    rw [y_c1_s, List.any_cons, y_c1_any m sz t c j, y_cn_s]
    unfold y_nr
    simp only [y_far_comm (y_P m (t - l)) c, Nat.add_comm m.2.1 sz]
theorem y_cl_any (sz t c : Nat) : ∀ ms : List y_Mv, (y_cl sz t ms).any (y_nr c) = y_dg ms sz t c
  | [] => rfl
  | m :: r => by
    have ih := y_cl_any sz t c r
    unfold y_dg at ih ⊢
    rw [y_cl_s, List.any_append, ih, List.any_cons]
    congr 1
    unfold y_d1
    by_cases h : m.1 = 1
    · rw [if_pos h, decide_eq_true h, Bool.true_and, y_c1_any]
    · rw [if_neg h, decide_eq_false h, Bool.false_and]; rfl
/-- the places stand in the model -/
def y_pl (S : Nat → Nat → Int32) (l : List (Nat × Nat)) : Prop := S 52 46 = nI l.length ∧ ∀ k (hk : k < l.length), S 81 k = nI (l[k]).1 ∧ S 82 k = nI (l[k]).2 ∧ (l[k]).1 < 400 ∧ (l[k]).2 ≤ 6
def y_pf (S S' : Nat → Nat → Int32) : Prop := (∀ b, b ≠ 81 → b ≠ 82 → b ≠ 52 → S' b = S b) ∧ (∀ q, q ≠ 46 → S' 52 q = S 52 q)
theorem y_pf_id : y_pf S S := ⟨fun _ _ _ _ => rfl, fun _ _ => rfl⟩
theorem y_pf_tr {S1 S2 : Nat → Nat → Int32} (h1 : y_pf S S1) (h2 : y_pf S1 S2) : y_pf S S2 := ⟨fun b x y z => (h2.1 b x y z).trans (h1.1 b x y z), fun q hq => (h2.2 q hq).trans (h1.2 q hq)⟩
theorem J_mov_pf {S' : Nat → Nat → Int32} (J : J_mov ms ad Dh S R nx) (e : y_pf S S') : J_mov ms ad Dh S' R nx := J_mov_fr J ⟨by rw [e.1 8 (by decide) (by decide) (by decide)], e.2 2 (by decide), e.1 55 (by decide) (by decide) (by decide), e.1 56 (by decide) (by decide) (by decide), e.1 57 (by decide) (by decide) (by decide), e.1 58 (by decide) (by decide) (by decide), e.1 59 (by decide) (by decide) (by decide), e.1 60 (by decide) (by decide) (by decide), e.1 61 (by decide) (by decide) (by decide), e.1 62 (by decide) (by decide) (by decide), fun b hb => e.1 b (by omega) (by omega) (by omega)⟩
theorem y_pl_snoc {l : List (Nat × Nat)} {p : Nat × Nat} (h : y_pl S l) (h1 : p.1 < 400) (h2 : p.2 ≤ 6) : y_pl (z_ups (z_ups (z_ups S 81 l.length (nI p.1)) 82 l.length (nI p.2)) 52 46 (nI (l.length + 1))) (l ++ [p]) := by
  refine ⟨by rw [z_upsS, List.length_append]; rfl, fun k hk => ?_⟩
  have e81 : z_ups (z_ups (z_ups S 81 l.length (nI p.1)) 82 l.length (nI p.2)) 52 46 (nI (l.length + 1)) 81 k = if k = l.length then nI p.1 else S 81 k := by rw [z_ups_ne (by decide), z_ups_ne (by decide), z_upsE, if_pos rfl]
  have e82 : z_ups (z_ups (z_ups S 81 l.length (nI p.1)) 82 l.length (nI p.2)) 52 46 (nI (l.length + 1)) 82 k = if k = l.length then nI p.2 else S 82 k := by rw [z_ups_ne (by decide), z_upsE, if_pos rfl, z_ups_ne (by decide)]
  rw [e81, e82]
  by_cases q : k = l.length
  · have : (l ++ [p])[k] = p := by
      rw [List.getElem_append_right (by omega)]
      simp
    rw [if_pos q, if_pos q, this]
    exact ⟨rfl, rfl, h1, h2⟩
  · have hk2 : k < l.length := by rw [List.length_append] at hk; simp at hk; omega
    rw [if_neg q, if_neg q, List.getElem_append_left hk2]
    exact h.2 k hk2
theorem M152_48 {i b t : Nat} {m k : y_Mv} (hi : i < 12) (hb : b < 12) (hm : y_mok m) (hk : y_mok k) (ht : t ≤ 600) : ∀ (j l : Nat) (S : Nat → Nat → Int32) (pre : List (Nat × Nat)), y_mM S i m → y_mM S b k → l + j = m.2.2.2.2.1 + 1 → pre.length ≤ 10 * i + l → y_pl S pre → ∃ S', L152_48 (some 52) (nI b) (nI t) (nI i) (nI l) (z_mk L Dh S R nx sl) = L152_23 (some 52) (nI b) (nI t) (nI (i + 1)) (z_mk L Dh S' R nx sl) ∧ y_pl S' (pre ++ y_c1 m k.2.1 t j l) ∧ y_pf S S' := by
  have i1 : z_in (nI i) 12 = true := z_in_nI hi (by decide)
  have i2 : (nI i).toNatClampNeg = i := z_cl (by omega)
  have b1 : z_in (nI b) 12 = true := z_in_nI hb (by decide)
  have b2 : (nI b).toNatClampNeg = b := z_cl (by omega)
  have h9 := hm.2.2.2.2.1
  have hs1 := hm.2.1
  have hs2 := hk.2.1
  intro j
  induction j with
  | zero =>
    intro l S pre M K hl hp P
    refine ⟨S, ?_, by rw [show y_c1 m k.2.1 t 0 l = [] from rfl, List.append_nil]; exact P, y_pf_id⟩
    rw [E152_48]
    simp only [g_52_7, z_bs, l_59 i1, i2, M.2.2.2.2.1]
    rw [if_pos (nI_lt (by omega) (by omega)), nI_1]
  | succ j ih =>
    intro l S pre M K hl hp P
    have l120 : z_in (nI pre.length) 120 = true := z_in_nI (by omega) (by decide)
    have l2 : (nI pre.length).toNatClampNeg = pre.length := z_cl (by omega)
    have P' := y_pl_snoc (p := (y_P m (t - l), m.2.1 + k.2.1)) P (y_P_lt hm _) (show m.2.1 + k.2.1 ≤ 6 by omega)
    obtain ⟨T, hT⟩ : ∃ T, T = z_ups (z_ups (z_ups S 81 pre.length (nI (y_P m (t - l)))) 82 pre.length (nI (m.2.1 + k.2.1))) 52 46 (nI (pre.length + 1)) := ⟨_, rfl⟩
    have pf : y_pf S T := ⟨fun b x y z => by rw [hT, z_ups_ne z, z_ups_ne y, z_ups_ne x], fun q hq => by rw [hT, z_upsK hq, z_ups_ne (by decide), z_ups_ne (by decide)]⟩
    have MT : y_mM T i m := by rw [hT]; exact M
    have KT : y_mM T b k := by rw [hT]; exact K
    obtain ⟨S', e1, e2, e3⟩ := ih (l + 1) T (pre ++ [(y_P m (t - l), m.2.1 + k.2.1)]) MT KT (by omega) (by rw [List.length_append]; simp; omega) (by rw [hT]; exact P')
    refine ⟨S', ?_, ?_, y_pf_tr pf e3⟩
    · rw [E152_48]
      simp only [g_52_7, z_bs, l_59 i1, i2, M.2.2.2.2.1]
      rw [if_neg (Int32.not_lt.mpr (nI_le (by omega) (by omega)))]
      have m1 := M.2.1
      have k1 := K.2.1
      have p1 := P.1
      simp only [g_52_44, g_52_45, g_52_46, g_52_4, o_52, z_bs, p1, M144 hi hm M ht (show l ≤ 600 by omega), s_81 l120, s_82 l120, l2, l_56 i1, l_56 b1, i2, b2, z_ups_ne (show (52 : Nat) ≠ 81 by decide), z_ups_ne (show (52 : Nat) ≠ 82 by decide), z_ups_ne (show (56 : Nat) ≠ 81 by decide), m1, k1, nI_add, p_52_46, nI_1]
      rw [← hT]
      exact e1
    · rw [y_c1_s, ← List.singleton_append, ← List.append_assoc]
      exact e2
theorem M152_23 {b t : Nat} {k : y_Mv} (hb : b < 12) (hk : y_mok k) (ht : t ≤ 600) (hbl : b < ms.length) (hbk : ms[b] = k) : ∀ (r : List y_Mv) (i : Nat) (S : Nat → Nat → Int32) (pre : List (Nat × Nat)), ms.drop i = r → i ≤ ms.length → J_mov ms ad Dh S R nx → pre.length ≤ 10 * i → y_pl S pre → ∃ S', L152_23 (some 52) (nI b) (nI t) (nI i) (z_mk L Dh S R nx sl) = some (z_mk L Dh S' R nx sl) ∧ y_pl S' (pre ++ y_cl k.2.1 t r) ∧ y_pf S S' := by
  intro r
  induction r with
  | nil =>
    intro i S pre hr hi J hp P
    have h12 := J.1
    have hk : ms.length ≤ i := List.drop_eq_nil_iff.mp hr
    refine ⟨S, ?_, by rw [show y_cl k.2.1 t [] = [] from rfl, List.append_nil]; exact P, y_pf_id⟩
    rw [E152_23]
    simp only [g_52_2, z_bs, J.2.2.1]
    rw [if_pos (nI_le hk (by omega))]
  | cons m r ih =>
    intro i S pre hr hi J hp P
    have h12 := J.1
    obtain ⟨hil, hg, hd⟩ := y_drop_cons hr
    obtain ⟨a1, a2, a3, a4, a5⟩ := J.2.2.2.1 i hil
    obtain ⟨b1, b2, b3, b4, b5⟩ := J.2.2.2.1 b hbl
    rw [hg] at a3 a4 a5
    rw [hbk] at b5
    have ka := a3.1
    have i1 : z_in (nI i) 12 = true := z_in_nI (by omega) (by decide)
    have i2 : (nI i).toNatClampNeg = i := z_cl (by omega)
    have a51 := a5.1
    have h9 := a3.2.2.2.2.1
    rw [E152_23]
    simp only [g_52_2, g_52_3, z_bs, J.2.2.1, l_55 i1, i2, a51, nI_1]
    rw [if_neg (nI_ge hil (by omega)), y_cl_s]
    by_cases c1 : m.1 = 1
    · rw [if_pos (nI_ne0 (by omega) (by omega)), if_pos c1]
      obtain ⟨S1, e1, e2, e3⟩ := M152_48 (L := L) (Dh := Dh) (R := R) (nx := nx) (sl := sl) (show i < 12 by omega) hb a3 hk ht (m.2.2.2.2.1 + 1) 0 S pre a5 b5 (by omega) (by omega) P
      obtain ⟨S2, f1, f2, f3⟩ := ih (i + 1) S1 _ hd (by omega) (J_mov_pf J e3) (by rw [List.length_append, y_c1_len]; omega) e2
      refine ⟨S2, ?_, by rw [← List.append_assoc]; exact f2, y_pf_tr e3 f3⟩
      rw [show (0 : Int32) = nI 0 from rfl, e1, f1]
    · have z1 : m.1 = 0 := by omega
      rw [z1, if_neg (fun q => q rfl), if_neg (by decide), List.nil_append]
      exact ih (i + 1) S pre hd (by omega) J (by omega) P
theorem M152 (J : J_mov ms ad Dh S R nx) {b T : Nat} (hbl : b < ms.length) (hT : T < 10000) : ∃ S', z_cV 4 152 [.inr (.inr (some 52)), .inl (nI T), .inl (nI b)] (z_mk L Dh S R nx sl) = some (z_mk L Dh S' R nx sl) ∧ y_pl S' (y_cl (ms[b]).2.1 (min T 600) ms) ∧ y_pf S S' := by
  have h12 := J.1
  have pf : y_pf S (z_ups S 52 46 0) := ⟨fun b _ _ z => z_ups_ne z, fun q hq => z_upsK hq⟩
  have hb3 := (J.2.2.2.1 b hbl).2.2.1
  obtain ⟨S1, e1, e2, e3⟩ := M152_23 (L := L) (Dh := Dh) (R := R) (nx := nx) (sl := sl) (t := min T 600) (show b < 12 by omega) hb3 (by omega) hbl rfl ms 0 (z_ups S 52 46 0) [] rfl (by omega) (J_mov_pf J pf) (by simp) ⟨by rw [z_upsS]; rfl, fun k hk => absurd hk (Nat.not_lt_zero _)⟩
  refine ⟨S1, ?_, e2, y_pf_tr pf e3⟩
  rw [E152]
  simp only [p_52_46, z_bs]
  by_cases c : T ≤ 600
  · rw [if_pos (show nI T ≤ (600 : Int32) from nI_le (b := 600) c (by decide))]
    rw [Nat.min_eq_left c] at e1
    exact e1
  · rw [if_neg (show ¬ nI T ≤ (600 : Int32) from nI_ge (a := 600) (by omega) (by omega))]
    rw [Nat.min_eq_right (by omega)] at e1
    exact e1
theorem M153_2 {l : List (Nat × Nat)} (hl : l.length ≤ 120) (P : y_pl S l) {c : Nat} (hc : c < 400) : ∀ (r : List (Nat × Nat)) (k : Nat), l.drop k = r → k ≤ l.length → L153_2 (some 52) (nI c) (nI k) (z_mk L Dh S R nx sl) = some (if r.any (y_nr c) = true then 1 else 0, z_mk L Dh S R nx sl) := by
  intro r
  induction r with
  | nil =>
    intro k hr hk
    have hk : l.length ≤ k := List.drop_eq_nil_iff.mp hr
    rw [E153_2]
    simp only [g_52_46, z_bs, P.1]
    rw [if_pos (nI_le hk (by omega))]
    rfl
  | cons p r ih =>
    intro k hr hk
    obtain ⟨hkl, hg, hd⟩ := y_drop_cons hr
    have ih := ih (k + 1) hd (by omega)
    obtain ⟨q1, q2, q3, q4⟩ := P.2 k hkl
    rw [hg] at q1 q2 q3 q4
    have k1 : z_in (nI k) 120 = true := z_in_nI (by omega) (by decide)
    have k2 : (nI k).toNatClampNeg = k := z_cl (by omega)
    have hf := y_far_lt q3 hc
    rw [E153_2, List.any_cons]
    simp only [g_52_46, z_bs, P.1]
    rw [if_neg (nI_ge hkl (by omega))]
    simp only [g_52_44, g_52_45, o_52, z_bs, l_81 k1, l_82 k1, k2, q1, q2, M137 q3 hc, nI_1]
    unfold y_nr at ih ⊢
    by_cases e : p.2 < y_far p.1 c
    · rw [if_pos (nI_lt e (by omega)), decide_eq_false (by omega), Bool.false_or]
      exact ih
    · rw [if_neg (Int32.not_lt.mpr (nI_le (by omega) (by omega))), decide_eq_true (by omega), Bool.true_or, if_pos rfl]
theorem M153 {l : List (Nat × Nat)} (hl : l.length ≤ 120) (P : y_pl S l) {c : Nat} (hc : c < 400) : z_cI 3 153 [.inr (.inr (some 52)), .inl (nI c)] (z_mk L Dh S R nx sl) = some (if l.any (y_nr c) = true then 1 else 0, z_mk L Dh S R nx sl) := by
  rw [E153]
  exact M153_2 hl P hc l 0 rfl (by omega)
theorem y_cl_len (sz t : Nat) : ∀ (r : List y_Mv), (∀ m ∈ r, m.2.2.2.2.1 ≤ 9) → (y_cl sz t r).length ≤ 10 * r.length
  | [], _ => by simp [y_cl]
  | m :: r, h => by
    have ih := y_cl_len sz t r (fun x hx => h x (List.mem_cons_of_mem _ hx))
    have h9 := h m List.mem_cons_self
    rw [y_cl_s, List.length_append, List.length_cons]
    by_cases c : m.1 = 1
    · rw [if_pos c, y_c1_len]; omega
    · rw [if_neg c, List.length_nil]; omega
theorem y_cl_120 (J : J_mov ms ad Dh S R nx) (sz t : Nat) : (y_cl sz t ms).length ≤ 120 := by
  have := y_cl_len sz t ms (fun m hm => by
    obtain ⟨i, hi, rfl⟩ := List.mem_iff_getElem.mp hm
    exact (J.2.2.2.1 i hi).2.2.1.2.2.2.2.1)
  have := J.1
  omega
def A_dan (a : Nat) : Bool := decide (a ∈ [7, 81, 82, 86])
def K_dan (k : Nat) : Bool := decide (k ∈ [46])

theorem S_danger (h_I_ref : I_ref S) (J : J_mov ms ad Dh S R nx) (x c t : Int32) : z_R2 (fun h => z_cI 5 90 [.inr (.inr (some 6)), .inl x, .inl c, .inl t] h) (fun h => z_cI 5 154 [.inr (.inr (some 52)), .inl x, .inl c, .inl t] h) L Dh S R nx sl A_dan K_dan (fun S' => I_ref S') := by
  have h12' := J.1
  by_cases d1 : x < 0 ∨ nI ms.length ≤ x
  · refine z_R2_no z_code1 rfl rfl h_I_ref ?_ ?_ (z_no_ref h_I_ref z_code1)
    · show z_cI 5 90 _ _ = _
      rw [E90]
      simp only [g_6_1, o_8, M43x J d1, z_bs, z_nulN, z_tt, z_iT, o_6, M122 z_code1]
    · show z_cI 5 154 _ _ = _
      rw [E154]
      simp only [o_52, z_bs, M133 (show z_no 7 S (-1) 52 2 = nI ms.length from J.2.2.1), d1, z_iT, z_e00, M131 z_code1]
  · obtain ⟨i, hi, rfl⟩ := z_plc (by omega) (fun q => d1 (Or.inl q)) (fun q => d1 (Or.inr q))
    obtain ⟨k1, k2, k3, k4, k5⟩ := J.2.2.2.1 i hi
    have h12 : i < 12 := by omega
    have h87 := k4.1.1
    have i1 : z_in (nI i) 12 = true := z_in_nI h12 (by decide)
    have i2 : (nI i).toNatClampNeg = i := z_cl (by omega)
    have kk := k3.1
    have kd : (ms[i]).1 = 0 ∨ (ms[i]).1 = 1 := by omega
    have ke : (nI (ms[i]).1 = (0 : Int32)) = ¬ (1 ≤ (ms[i]).1) := propext ⟨fun q w => by rcases kd with e | e <;> rw [e] at q w <;> revert q w <;> decide, fun q => by rw [show (ms[i]).1 = 0 by omega]; rfl⟩
    have kf : (nI (ms[i]).1 = (1 : Int32)) = (1 ≤ (ms[i]).1) := propext ⟨fun q => by rcases kd with e | e <;> rw [e] at q <;> revert q <;> rw [e] <;> decide, fun q => by rw [show (ms[i]).1 = 1 by omega]; rfl⟩
    by_cases c1 : c < 0
    · refine z_R2_no z_code1 rfl rfl h_I_ref ?_ ?_ (z_no_ref h_I_ref z_code1)
      · show z_cI 5 90 _ _ = _
        rw [E90]
        simp only [M122 z_code1, z_bs, g_6_1, o_8, o_6, M43n J hi, z_nulS (show 6 ≤ ad i by omega), z_ff, M123, y_g0 k4.1, y_g1 k4.1, k4.2.1, k4.2.2.1, ke, c1, Int32.not_le.mpr c1, true_or, or_true, or_self, false_or, or_false, not_true, not_false_eq_true, Classical.not_not, z_10, z_iT, z_iF]
      · show z_cI 5 154 _ _ = _
        rw [E154]
        simp only [M131 z_code1, z_bs, o_52, M133 (S := (z_no 7 S (-1))) (n := ms.length) (show (z_no 7 S (-1)) 52 2 = nI ms.length from J.2.2.1), d1, M132, g_52_3, l_55 i1, i2, show (z_no 7 S (-1)) 55 i = nI (ms[i]).1 from k5.1, kf, c1, Int32.not_le.mpr c1, true_or, or_true, or_self, false_or, or_false, not_true, not_false_eq_true, Classical.not_not, z_10, z_iT, z_iF]
    · skip
      by_cases c2 : 400 ≤ c
      · refine z_R2_no z_code1 rfl rfl h_I_ref ?_ ?_ (z_no_ref h_I_ref z_code1)
        · show z_cI 5 90 _ _ = _
          rw [E90]
          simp only [M122 z_code1, z_bs, g_6_1, o_8, o_6, M43n J hi, z_nulS (show 6 ≤ ad i by omega), z_ff, M123, y_g0 k4.1, y_g1 k4.1, k4.2.1, k4.2.2.1, ke, c1, Int32.not_lt.mp c1, c2, Int32.not_lt.mpr c2, true_or, or_true, or_self, false_or, or_false, not_true, not_false_eq_true, Classical.not_not, z_10, z_iT, z_iF]
        · show z_cI 5 154 _ _ = _
          rw [E154]
          simp only [M131 z_code1, z_bs, o_52, M133 (S := (z_no 7 S (-1))) (n := ms.length) (show (z_no 7 S (-1)) 52 2 = nI ms.length from J.2.2.1), d1, M132, g_52_3, l_55 i1, i2, show (z_no 7 S (-1)) 55 i = nI (ms[i]).1 from k5.1, kf, c1, Int32.not_lt.mp c1, c2, Int32.not_lt.mpr c2, true_or, or_true, or_self, false_or, or_false, not_true, not_false_eq_true, Classical.not_not, z_10, z_iT, z_iF]
      · skip
        by_cases c3 : 1 ≤ (ms[i]).1
        · refine z_R2_no z_code2 rfl rfl h_I_ref ?_ ?_ (z_no_ref h_I_ref z_code2)
          · show z_cI 5 90 _ _ = _
            rw [E90]
            simp only [M122 z_code2, z_bs, g_6_1, o_8, o_6, M43n J hi, z_nulS (show 6 ≤ ad i by omega), z_ff, M123, y_g0 k4.1, y_g1 k4.1, k4.2.1, k4.2.2.1, ke, c1, Int32.not_lt.mp c1, c2, Int32.not_le.mp c2, c3, true_or, or_true, or_self, false_or, or_false, not_true, not_false_eq_true, Classical.not_not, z_10, z_iT, z_iF]
          · show z_cI 5 154 _ _ = _
            rw [E154]
            simp only [M131 z_code2, z_bs, o_52, M133 (S := (z_no 7 S (-2))) (n := ms.length) (show (z_no 7 S (-2)) 52 2 = nI ms.length from J.2.2.1), d1, M132, g_52_3, l_55 i1, i2, show (z_no 7 S (-2)) 55 i = nI (ms[i]).1 from k5.1, kf, c1, Int32.not_lt.mp c1, c2, Int32.not_le.mp c2, c3, true_or, or_true, or_self, false_or, or_false, not_true, not_false_eq_true, Classical.not_not, z_10, z_iT, z_iF]
        · skip
          by_cases c4 : t < 0
          · refine z_R2_no z_code4 rfl rfl h_I_ref ?_ ?_ (z_no_ref h_I_ref z_code4)
            · show z_cI 5 90 _ _ = _
              rw [E90]
              simp only [M122 z_code4, z_bs, g_6_1, o_8, o_6, M43n J hi, z_nulS (show 6 ≤ ad i by omega), z_ff, M123, y_g0 k4.1, y_g1 k4.1, k4.2.1, k4.2.2.1, ke, c1, Int32.not_lt.mp c1, c2, Int32.not_le.mp c2, c3, c4, Int32.not_le.mpr c4, true_or, or_true, or_self, false_or, or_false, not_true, not_false_eq_true, Classical.not_not, z_10, z_iT, z_iF]
            · show z_cI 5 154 _ _ = _
              rw [E154]
              simp only [M131 z_code4, z_bs, o_52, M133 (S := (z_no 7 S (-4))) (n := ms.length) (show (z_no 7 S (-4)) 52 2 = nI ms.length from J.2.2.1), d1, M132, g_52_3, l_55 i1, i2, show (z_no 7 S (-4)) 55 i = nI (ms[i]).1 from k5.1, kf, c1, Int32.not_lt.mp c1, c2, Int32.not_le.mp c2, c3, c4, Int32.not_le.mpr c4, true_or, or_true, or_self, false_or, or_false, not_true, not_false_eq_true, Classical.not_not, z_10, z_iT, z_iF]
          · skip
            by_cases c5 : 600 < t
            · refine z_R2_no z_code6 rfl rfl h_I_ref ?_ ?_ (z_no_ref h_I_ref z_code6)
              · show z_cI 5 90 _ _ = _
                rw [E90]
                simp only [M122 z_code6, z_bs, g_6_1, o_8, o_6, M43n J hi, z_nulS (show 6 ≤ ad i by omega), z_ff, M123, y_g0 k4.1, y_g1 k4.1, k4.2.1, k4.2.2.1, ke, c1, Int32.not_lt.mp c1, c2, Int32.not_le.mp c2, c3, c4, Int32.not_lt.mp c4, c5, Int32.not_le.mpr c5, true_or, or_true, or_self, false_or, or_false, not_true, not_false_eq_true, Classical.not_not, z_10, z_iT, z_iF]
              · show z_cI 5 154 _ _ = _
                rw [E154]
                simp only [M131 z_code6, z_bs, o_52, M133 (S := (z_no 7 S (-6))) (n := ms.length) (show (z_no 7 S (-6)) 52 2 = nI ms.length from J.2.2.1), d1, M132, g_52_3, l_55 i1, i2, show (z_no 7 S (-6)) 55 i = nI (ms[i]).1 from k5.1, kf, c1, Int32.not_lt.mp c1, c2, Int32.not_le.mp c2, c3, c4, Int32.not_lt.mp c4, c5, Int32.not_le.mpr c5, true_or, or_true, or_self, false_or, or_false, not_true, not_false_eq_true, Classical.not_not, z_10, z_iT, z_iF]
            · skip
              obtain ⟨cc, hcc, rfl⟩ := z_plc (n := 400) (by omega) c1 c2
              obtain ⟨tt, htt, rfl⟩ := nI_of2 (n := 600) rfl c4 (Int32.not_lt.mp c5)
              obtain ⟨S1, e1, e2, e3⟩ := M152 (L := L) (sl := sl) J hi (show tt < 10000 by omega)
              rw [Nat.min_eq_left htt] at e2
              have key : (y_cl (ms[i]).2.1 tt ms).any (y_nr cc) = y_dg ms (ms[i]).2.1 tt cc := y_cl_any _ _ _ _
              refine ⟨if y_dg ms (ms[i]).2.1 tt cc = true then 1 else 0, S, S1, ?_, ?_, ⟨fun b hb h52 => ?_, fun k hk => ?_⟩, ?_⟩
              · show z_cI 5 90 _ _ = _
                rw [E90]
                simp only [g_6_1, o_8, o_6, M43n J hi, z_nulS (show 6 ≤ ad i by omega), z_ff, M123, y_g0 k4.1, y_g1 k4.1, k4.2.1, k4.2.2.1, ke, z_bs, c1, Int32.not_lt.mp c1, c2, Int32.not_le.mp c2, c3, c4, Int32.not_lt.mp c4, c5, Int32.not_lt.mp c5, true_or, or_true, or_self, false_or, or_false, not_true, not_false_eq_true, Classical.not_not, z_10, z_iT, z_iF, M50 J k3.2.1 hcc htt]
                by_cases q : y_dg ms (ms[i]).2.1 tt cc = true
                · simp only [q, z_tt, z_iT, z_10, z_iF]
                · simp only [q, z_ff, z_iF, z_e00, z_iT]
              · show z_cI 5 154 _ _ = _
                rw [E154]
                simp only [o_52, M133 (S := S) (n := ms.length) (show S 52 2 = nI ms.length from J.2.2.1), d1, M132, g_52_3, l_55 i1, i2, show S 55 i = nI (ms[i]).1 from k5.1, kf, z_bs, c1, Int32.not_lt.mp c1, c2, Int32.not_le.mp c2, c3, c4, Int32.not_lt.mp c4, c5, Int32.not_lt.mp c5, true_or, or_true, or_self, false_or, or_false, not_true, not_false_eq_true, Classical.not_not, z_10, z_iT, z_iF, e1, M153 (y_cl_120 J _ _) e2 hcc, key]
                by_cases q : y_dg ms (ms[i]).2.1 tt cc = true
                · simp only [q, z_tt, z_iT, z_10, z_iF]
                · simp only [q, z_ff, z_iF, z_e00, z_iT]
              · have hb := of_decide_eq_false hb
                exact e3.1 b (fun q => hb (by rw [q]; decide)) (fun q => hb (by rw [q]; decide)) h52
              · have hk := of_decide_eq_false hk
                exact e3.2 k (fun q => hk (by rw [q]; decide))
              · exact I_ref_fr h_I_ref ⟨e3.1 7 (by decide) (by decide) (by decide), e3.1 86 (by decide) (by decide) (by decide)⟩
end ZSN
