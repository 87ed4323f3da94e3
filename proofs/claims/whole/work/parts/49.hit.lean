section ZSL
variable {L : Nat} {Dh : Nat → z_Sh} {S : Nat → Nat → Int32} {R : Nat → Nat → Option Nat} {nx sl : Nat}
variable {ms : List y_Mv} {ad : Nat → Nat}
/-! hits: both sides -/
theorem y_abs : ∀ a, a < 20 → ∀ b, b < 20 → (if (0 : Int32) ≤ nI a - nI b then nI a - nI b else -(nI a - nI b)) = nI (max (a - b) (b - a)) := by decide +kernel
theorem y_max {a b : Nat} (ha : a < 1000000) (hb : b < 1000000) : (if nI a < nI b then nI b else nI a) = nI (max a b) := by
  by_cases c : a < b
  · rw [if_pos (z_lt.mpr (by rw [z_nI (by omega), z_nI (by omega)]; omega)), Nat.max_eq_right (by omega)]
  · rw [if_neg (fun q => c (by have := z_lt.mp q; rw [z_nI (by omega), z_nI (by omega)] at this; omega)), Nat.max_eq_left (by omega)]
theorem y_min {a b : Nat} (ha : a < 1000000) (hb : b < 1000000) : (if nI b < nI a then nI b else nI a) = nI (min a b) := by
  by_cases c : b < a
  · rw [if_pos (z_lt.mpr (by rw [z_nI (by omega), z_nI (by omega)]; omega)), Nat.min_eq_right (by omega)]
  · rw [if_neg (fun q => c (by have := z_lt.mp q; rw [z_nI (by omega), z_nI (by omega)] at this; omega)), Nat.min_eq_left (by omega)]
theorem M126 {c d : Nat} (hc : c < 400) (hd : d < 400) {h : z_H} : z_cI 2 126 [.inl (nI c), .inl (nI d)] h = some (nI (y_far c d), h) := by
  rw [E126, (z_cd c hc).2, (z_cd d hd).2, (z_cd c hc).1, (z_cd d hd).1]
  simp only [M228, z_bs, M229]
  rw [y_abs _ (by omega) _ (by omega), y_abs _ (by omega) _ (by omega), y_max (by omega) (by omega)]
  rfl
theorem M137 {c d : Nat} (hc : c < 400) (hd : d < 400) : z_cI 2 137 [.inr (.inr (some 52)), .inl (nI c), .inl (nI d)] (z_mk L Dh S R nx sl) = some (nI (y_far c d), (z_mk L Dh S R nx sl)) := by
  have e : ∀ x : Int32, ∀ h : z_H, z_cI 1 136 [.inr (.inr (some 52)), .inl x] h = some (if 0 ≤ x then x else -x, h) := fun x h => by
    rw [E136]
    by_cases c : 0 ≤ x
    · rw [if_pos c, if_pos c]
    · rw [if_neg c, if_neg c]
  rw [E137, (z_cd c hc).2, (z_cd d hd).2, (z_cd c hc).1, (z_cd d hd).1]
  simp only [o_52, e, z_bs]
  rw [y_abs _ (by omega) _ (by omega), y_abs _ (by omega) _ (by omega)]
  unfold y_far
  generalize hu : max (c % 20 - d % 20) (d % 20 - c % 20) = u
  generalize hv : max (c / 20 - d / 20) (d / 20 - c / 20) = v
  by_cases q : v ≤ u
  · rw [if_pos (nI_le q (by omega)), Nat.max_eq_left q]
  · rw [if_neg (nI_ge (by omega) (by omega)), Nat.max_eq_right (by omega)]
/-- some late brings it near -/
def y_cn (c near : Nat) (m : y_Mv) (t : Nat) : Nat → Nat → Bool
  | 0, _ => false
  | j + 1, l => decide (y_far c (y_P m (t - l)) ≤ near) || y_cn c near m t j (l + 1)
theorem y_cn_s (c near : Nat) (m : y_Mv) (t j l : Nat) : y_cn c near m t (j + 1) l = (decide (y_far c (y_P m (t - l)) ≤ near) || y_cn c near m t j (l + 1)) := rfl
theorem y_cn_iff {c near : Nat} {m : y_Mv} {t : Nat} : ∀ (j l : Nat), y_cn c near m t j l = true ↔ ∃ i, l ≤ i ∧ i < l + j ∧ y_far c (y_P m (t - i)) ≤ near
  | 0, l => by
    constructor
    · intro h; cases h
    · rintro ⟨i, h1, h2, -⟩; omega
  | j + 1, l => by
    rw [y_cn_s, Bool.or_eq_true, decide_eq_true_iff, y_cn_iff j (l + 1)]
    constructor
    · rintro (h | ⟨i, h1, h2, h3⟩)
      · exact ⟨l, Nat.le_refl _, by omega, h⟩
      · exact ⟨i, by omega, by omega, h3⟩
    · rintro ⟨i, h1, h2, h3⟩
      by_cases q : i = l
      · left; rw [← q]; exact h3
      · right; exact ⟨i, by omega, by omega, h3⟩
theorem y_far_lt {a b : Nat} (ha : a < 400) (hb : b < 400) : y_far a b < 20 := by unfold y_far; omega
theorem M45_6 {a : Nat} {m : y_Mv} (C : y_cM Dh R S a m) (hm : y_mok m) {c t near : Nat} (hc : c < 400) (ht : t ≤ 600) (hn : near < 1000) : ∀ (j l : Nat) (v : Int32), l + j = m.2.2.2.2.1 + 1 → (v = -1 ∨ ∃ p, p < 400 ∧ v = nI p ∧ near < y_far c p) → L45_6 (some a) (nI c) (nI t) (nI near) v (nI l) (z_mk L Dh S R nx sl) = some (if y_cn c near m t j l = true then 1 else 0, z_mk L Dh S R nx sl) := by
  have hs : S a 4 = nI m.2.2.2.2.1 := C.2.2.2.2.2.1
  have h9 := hm.2.2.2.2.1
  intro j
  induction j with
  | zero =>
    intro l v hl hv
    rw [E45_6]
    simp only [y_g4 C.1, z_bs, hs]
    rw [if_pos (show nI m.2.2.2.2.1 < nI l from nI_lt (by omega) (by omega)), if_neg (by intro q; cases q)]
  | succ j ih =>
    intro l v hl hv
    have hp := y_P_lt hm (t - l)
    have ff := y_far_lt hc hp
    rw [E45_6]
    simp only [y_g4 C.1, y_ob C.1, z_bs, hs]
    rw [if_neg (show ¬ nI m.2.2.2.2.1 < nI l from Int32.not_lt.mpr (nI_le (by omega) (by omega))), M29l C ht (by omega)]
    simp only [z_bs, nI_1]
    by_cases c1 : nI (y_P m (t - l)) = v
    · rw [if_pos c1]
      have hfar : near < y_far c (y_P m (t - l)) := by
        rcases hv with rfl | ⟨p, h1, rfl, h2⟩
        · exfalso
          have := z_eq.mp c1
          rw [z_nI (by omega)] at this
          have e1 : (-1 : Int32).toInt = -1 := rfl
          omega
        · rw [nI_eq (by omega) (by omega)] at c1
          rw [c1]; exact h2
      rw [ih (l + 1) _ (by omega) (Or.inr ⟨_, hp, rfl, hfar⟩), y_cn_s, decide_eq_false (by omega), Bool.false_or]
    · rw [if_neg c1, M126 hc hp]
      simp only [z_bs]
      by_cases c2 : near < y_far c (y_P m (t - l))
      · rw [if_pos (nI_lt c2 (by omega)), ih (l + 1) _ (by omega) (Or.inr ⟨_, hp, rfl, c2⟩), y_cn_s, decide_eq_false (by omega), Bool.false_or]
      · rw [if_neg (Int32.not_lt.mpr (nI_le (by omega) (by omega))), y_cn_s, decide_eq_true (by omega), Bool.true_or, if_pos rfl]
theorem M45 {a : Nat} {m : y_Mv} (C : y_cM Dh R S a m) (hm : y_mok m) {c t near : Nat} (hc : c < 400) (ht : t ≤ 600) (hn : near < 1000) : z_cI 3 45 [.inr (.inr (some 8)), .inr (.inr (some a)), .inl (nI c), .inl (nI t), .inl (nI near)] (z_mk L Dh S R nx sl) = some (if y_cn c near m t (m.2.2.2.2.1 + 1) 0 = true then 1 else 0, z_mk L Dh S R nx sl) := by
  rw [E45]
  exact M45_6 C hm hc ht hn _ 0 _ (by omega) (Or.inl rfl)
/-- it moves at that tenth -/
def y_mv (m : y_Mv) (t : Nat) : Bool := decide (y_P m t ≠ y_P m (t - 1))
theorem M30 {a : Nat} {m : y_Mv} (C : y_cM Dh R S a m) (hm : y_mok m) {t : Nat} (h1 : 1 ≤ t) (ht : t ≤ 600) : z_cI 1 30 [.inr (.inr (some a)), .inl (nI t)] (z_mk L Dh S R nx sl) = some (if y_mv m t = true then 1 else 0, z_mk L Dh S R nx sl) := by
  have hx : nI t - 1 = nI (t - 1) := z_nI_sub (a := t) (b := 1) h1
  have hp := y_P_lt hm t
  have hq := y_P_lt hm (t - 1)
  rw [E30, if_neg (show ¬ nI t ≤ (0 : Int32) from nI_ge (a := 0) (b := t) (by omega) (by omega)), hx]
  simp only [y_g12 C.1, z_bs, y_n5 C.1]
  rw [if_neg (show ¬ (601 : Int32) ≤ nI t from nI_ge (a := t) (b := 601) (by omega) (by decide)), y_l5 C.1 (by omega), y_l5 C.1 (by omega)]
  simp only [z_bs]
  rw [C.2.2.2.2.2.2.2.2.1 t (by omega), C.2.2.2.2.2.2.2.2.1 (t - 1) (by omega)]
  unfold y_mv
  by_cases c : y_P m t = y_P m (t - 1)
  · rw [if_pos (by rw [c]), decide_eq_false (fun q => q c), if_neg (by decide)]
  · rw [if_neg (fun q => c ((nI_eq (by omega) (by omega)).mp q)), decide_eq_true c, if_pos rfl]
/-- what the class asks at a tenth -/
def y_nw (m k : y_Mv) (t : Nat) : Bool := (y_mv m t && y_cn (y_P m t) (m.2.1 + k.2.1) k t (k.2.2.2.2.1 + 1) 0) || (y_mv k t && y_cn (y_P k t) (m.2.1 + k.2.1) m t (m.2.2.2.2.1 + 1) 0)
theorem y_nw_tch {m k : y_Mv} {t : Nat} (h1 : 1 ≤ t) (h : y_tch m k (t - 1) = false) : y_nw m k t = y_tch m k t := by
  have hno : ∀ a b, a ≤ m.2.2.2.2.1 → b ≤ k.2.2.2.2.1 → ¬ y_far (y_P m (t - 1 - a)) (y_P k (t - 1 - b)) ≤ m.2.1 + k.2.1 := fun a b ha hb q => by
    rw [y_tch_iff.mpr ⟨a, b, ha, hb, q⟩] at h
    cases h
  rw [Bool.eq_iff_iff, y_tch_iff]
  unfold y_nw y_mv
  rw [Bool.or_eq_true, Bool.and_eq_true, Bool.and_eq_true, decide_eq_true_iff, decide_eq_true_iff, y_cn_iff, y_cn_iff]
  constructor
  · rintro (⟨-, i, -, h2, h3⟩ | ⟨-, i, -, h2, h3⟩)
    · exact ⟨0, i, by omega, by omega, h3⟩
    · exact ⟨i, 0, by omega, by omega, by rw [y_far_comm]; exact h3⟩
  · rintro ⟨a, b, ha, hb, hf⟩
    by_cases qa : a = 0
    · subst qa
      by_cases ma : y_P m t = y_P m (t - 1)
      · by_cases qb : b = 0
        · subst qb
          by_cases mb : y_P k t = y_P k (t - 1)
          · exfalso
            have := hno 0 0 (by omega) (by omega)
            rw [Nat.sub_zero] at hf
            rw [Nat.sub_zero, ← ma, ← mb] at this
            exact this hf
          · right
            exact ⟨mb, 0, by omega, by omega, by rw [y_far_comm]; exact hf⟩
        · exfalso
          have := hno 0 (b - 1) (by omega) (by omega)
          rw [Nat.sub_zero] at hf this
          rw [← ma, show t - 1 - (b - 1) = t - b by omega] at this
          exact this hf
      · left
        exact ⟨ma, b, by omega, by omega, hf⟩
    · by_cases qb : b = 0
      · subst qb
        by_cases mb : y_P k t = y_P k (t - 1)
        · exfalso
          have := hno (a - 1) 0 (by omega) (by omega)
          rw [Nat.sub_zero] at hf this
          rw [← mb, show t - 1 - (a - 1) = t - a by omega] at this
          exact this hf
        · right
          exact ⟨mb, a, by omega, by omega, by rw [y_far_comm]; exact hf⟩
      · exfalso
        have := hno (a - 1) (b - 1) (by omega) (by omega)
        rw [show t - 1 - (a - 1) = t - a by omega, show t - 1 - (b - 1) = t - b by omega] at this
        exact this hf
theorem y_fi_s (f : Nat → Bool) (j t : Nat) : y_fi f (j + 1) t = if f t = true then t else y_fi f j (t + 1) := rfl
theorem y_fi_nw {m k : y_Mv} : ∀ (j t : Nat), 1 ≤ t → y_tch m k (t - 1) = false → y_fi (y_nw m k) j t = y_fi (y_tch m k) j t
  | 0, t, _, _ => rfl
  | j + 1, t, h1, h => by
    rw [y_fi_s, y_fi_s, y_nw_tch h1 h]
    by_cases c : y_tch m k t = true
    · rw [if_pos c, if_pos c]
    · rw [if_neg c, if_neg c]
      exact y_fi_nw j (t + 1) (by omega) (by rw [Nat.add_sub_cancel]; exact Bool.eq_false_iff.mpr c)
theorem y_fi_skip {f : Nat → Bool} : ∀ (d j t : Nat), (∀ i, t ≤ i → i < t + d → f i = false) → y_fi f (d + j) t = y_fi f j (t + d)
  | 0, j, t, _ => by rw [Nat.zero_add, Nat.add_zero]
  | d + 1, j, t, h => by
    rw [show d + 1 + j = (d + j) + 1 by omega, y_fi_s, h t (Nat.le_refl _) (by omega), if_neg (by decide), y_fi_skip d j (t + 1) (fun i h1 h2 => h i (by omega) (by omega)), show t + 1 + d = t + (d + 1) by omega]
theorem y_fi_none {f : Nat → Bool} (j t : Nat) (h : ∀ i, t ≤ i → i < t + j → f i = false) : y_fi f j t = t + j := by
  have := y_fi_skip j 0 t h
  rw [Nat.add_zero] at this
  rw [this]
  rfl
theorem y_mv_cue {m : y_Mv} (hm : y_mok m) {t : Nat} (h : t ≤ m.2.2.2.1) : y_mv m t = false := by
  unfold y_mv
  rw [y_P_cue hm h, y_P_cue hm (show t - 1 ≤ _ by omega)]
  exact decide_eq_false (fun q => q rfl)
theorem y_nw_no {m k : y_Mv} {t : Nat} (h1 : y_mv m t = false) (h2 : y_mv k t = false) : y_nw m k t = false := by unfold y_nw; rw [h1, h2]; rfl
theorem y_tch_0 {m k : y_Mv} (hm : y_mok m) (hk : y_mok k) : y_tch m k 0 = true ↔ y_far m.2.2.1 k.2.2.1 ≤ m.2.1 + k.2.1 := by
  rw [y_tch_iff]
  constructor
  · rintro ⟨a, b, -, -, h⟩
    rw [y_P_cue hm (by omega), y_P_cue hk (by omega)] at h
    exact h
  · intro h
    exact ⟨0, 0, by omega, by omega, by rw [y_P_cue hm (by omega), y_P_cue hk (by omega)]; exact h⟩
theorem y_hit_nw {m k : y_Mv} (hm : y_mok m) (hk : y_mok k) : y_hit m k = if y_far m.2.2.1 k.2.2.1 ≤ m.2.1 + k.2.1 then 0 else y_fi (y_nw m k) (600 - min m.2.2.2.1 k.2.2.2.1) (min m.2.2.2.1 k.2.2.2.1 + 1) := by
  unfold y_hit
  rw [show (601 : Nat) = 600 + 1 from rfl, y_fi_s]
  by_cases c : y_far m.2.2.1 k.2.2.1 ≤ m.2.1 + k.2.1
  · rw [if_pos c, if_pos ((y_tch_0 hm hk).mpr c)]
  · have c' : y_tch m k 0 = false := Bool.eq_false_iff.mpr (fun q => c ((y_tch_0 hm hk).mp q))
    rw [if_neg c, if_neg (fun q => c ((y_tch_0 hm hk).mp q)), ← y_fi_nw 600 (0 + 1) (by omega) c']
    have hc1 := hm.2.2.2.1
    have := y_fi_skip (f := y_nw m k) (min m.2.2.2.1 k.2.2.2.1) (600 - min m.2.2.2.1 k.2.2.2.1) (0 + 1) (fun i h1 h2 => y_nw_no (y_mv_cue hm (by omega)) (y_mv_cue hk (by omega)))
    rw [show min m.2.2.2.1 k.2.2.2.1 + (600 - min m.2.2.2.1 k.2.2.2.1) = 600 by omega, show 0 + 1 + min m.2.2.2.1 k.2.2.2.1 = min m.2.2.2.1 k.2.2.2.1 + 1 by omega] at this
    exact this
theorem M48_61 {a b : Nat} {m k : y_Mv} (C : y_cM Dh R S a m) (hm : y_mok m) (K : y_cM Dh R S b k) (hk : y_mok k) {last : Nat} (hl : last ≤ 600) (hno : ∀ t, last < t → t ≤ 600 → y_nw m k t = false) : ∀ (j t : Nat), 1 ≤ t → t + j = 601 → L48_61 (some 8) (some a) (some b) (nI (m.2.1 + k.2.1)) (nI last) (nI t) (z_mk L Dh S R nx sl) = some (nI (y_fi (y_nw m k) j t), z_mk L Dh S R nx sl) := by
  have hs1 := hm.2.1
  have hs2 := hk.2.1
  intro j
  induction j with
  | zero =>
    intro t h1 ht
    rw [E48_61, if_pos (nI_lt (by omega) (by omega)), show t = 601 by omega]
    rfl
  | succ j ih =>
    intro t h1 ht
    by_cases c0 : last < t
    · rw [E48_61, if_pos (nI_lt c0 (by omega)), y_fi_none _ _ (fun i q1 q2 => hno i (by omega) (by omega)), ht]
      rfl
    · have ih := ih (t + 1) (by omega) (by omega)
      have ht6 : t ≤ 600 := by omega
      have key : ∀ (X : Bool), X = false ∨ X = true := fun X => by cases X <;> simp
      have e97 : (y_mv m t && y_cn (y_P m t) (m.2.1 + k.2.1) k t (k.2.2.2.2.1 + 1) 0) = false → L48_97 (some 8) (some a) (some b) (nI (m.2.1 + k.2.1)) (nI last) (nI t) (z_mk L Dh S R nx sl) = some (nI (y_fi (y_nw m k) (j + 1) t), z_mk L Dh S R nx sl) := fun q => by
        have hnw : y_nw m k t = (y_mv k t && y_cn (y_P k t) (m.2.1 + k.2.1) m t (m.2.2.2.2.1 + 1) 0) := by unfold y_nw; rw [q, Bool.false_or]
        rw [E48_97, y_fi_s, hnw]
        simp only [y_ob K.1, z_bs, M30 K hk h1 ht6, nI_1]
        by_cases w1 : y_mv k t = true
        · simp only [w1, z_tt, z_iT, z_10, z_iF, M29n K ht6, o_8, z_bs, M45 C hm (y_P_lt hk t) ht6 (show m.2.1 + k.2.1 < 1000 by omega), Bool.true_and]
          by_cases w2 : y_cn (y_P k t) (m.2.1 + k.2.1) m t (m.2.2.2.2.1 + 1) 0 = true
          · simp only [w2, z_tt, z_iT, z_10, z_iF]
          · simp only [w2, z_iF, z_e00, z_iT]
            exact ih
        · have w1' : y_mv k t = false := Bool.eq_false_iff.mpr w1
          simp only [w1', z_ff, z_iF, z_e00, z_iT, Bool.false_and]
          exact ih
      rw [E48_61, if_neg (Int32.not_lt.mpr (nI_le (by omega) (by omega)))]
      simp only [y_ob C.1, z_bs, M30 C hm h1 ht6]
      by_cases w1 : y_mv m t = true
      · simp only [w1, z_tt, z_iT, z_10, z_iF, M29n C ht6, o_8, z_bs, M45 K hk (y_P_lt hm t) ht6 (show m.2.1 + k.2.1 < 1000 by omega)]
        by_cases w2 : y_cn (y_P m t) (m.2.1 + k.2.1) k t (k.2.2.2.2.1 + 1) 0 = true
        · have hnw : y_nw m k t = true := by unfold y_nw; rw [w1, w2]; rfl
          simp only [w2, z_tt, z_iT, z_10, z_iF]
          rw [y_fi_s, if_pos hnw]
        · simp only [w2, z_iF, z_e00, z_iT]
          exact e97 (by rw [w1, Bool.true_and]; exact Bool.eq_false_iff.mpr w2)
      · have w1' : y_mv m t = false := Bool.eq_false_iff.mpr w1
        simp only [w1', z_ff, z_iF, z_e00, z_iT]
        exact e97 (by rw [w1', Bool.false_and])
theorem M48 {a b : Nat} {m k : y_Mv} (C : y_cM Dh R S a m) (hm : y_mok m) (K : y_cM Dh R S b k) (hk : y_mok k) : z_cI 4 48 [.inr (.inr (some 8)), .inr (.inr (some a)), .inr (.inr (some b))] (z_mk L Dh S R nx sl) = some (nI (y_hit m k), z_mk L Dh S R nx sl) := by
  obtain ⟨F, f1, f2, f3⟩ := C.2.2.2.2.2.2.2.2.2.2
  obtain ⟨G, g1, g2, g3⟩ := K.2.2.2.2.2.2.2.2.2.2
  have hs1 := hm.2.1
  have hs2 := hk.2.1
  have hcu1 := hm.2.2.2.1
  have hcu2 := hk.2.2.2.1
  have hfar := y_far_lt hm.2.2.1 hk.2.2.1
  rw [E48, y_hit_nw hm hk]
  simp only [y_g1 C.1, y_g1 K.1, y_g2 C.1, y_g2 K.1, z_bs, C.2.2.1, K.2.2.1, C.2.2.2.1, K.2.2.2.1, M126 hm.2.2.1 hk.2.2.1]
  rw [show nI m.2.1 + nI k.2.1 = nI (m.2.1 + k.2.1) from nI_add _ _]
  by_cases c : y_far m.2.2.1 k.2.2.1 ≤ m.2.1 + k.2.1
  · rw [if_pos c, if_neg (Int32.not_lt.mpr (nI_le c (by omega)))]
    rfl
  · rw [if_neg c, if_pos (nI_lt (by omega) (by omega))]
    simp only [y_g7 C.1, y_g7 K.1, y_g3 C.1, y_g3 K.1, z_bs, f2, g2, C.2.2.2.2.1, K.2.2.2.2.1, M229, M230]
    rw [y_max (by omega) (by omega), show (600 : Int32) = nI 600 from rfl, y_min (by omega) (by omega), y_min (by omega) (by omega), nI_1]
    refine M48_61 C hm K hk (by omega) (fun t ht q => ?_) _ _ (by omega) (by omega)
    refine y_nw_no ?_ ?_
    · unfold y_mv
      rw [f3 t (by omega), f3 (t - 1) (by omega)]
      exact decide_eq_false (fun q => q rfl)
    · unfold y_mv
      rw [g3 t (by omega), g3 (t - 1) (by omega)]
      exact decide_eq_false (fun q => q rfl)
/-- the hit of two, kept -/
theorem M47 (J : J_mov ms ad Dh S R nx) (H : J_hit ms S) {i j : Nat} (hij : i < j) (hj : j < ms.length) : ∃ S', z_cI 5 47 [.inr (.inr (some 8)), .inl (nI i), .inl (nI j)] (z_mk L Dh S R nx sl) = some (nI (y_hit ms[i] ms[j]), z_mk L Dh S' R nx sl) ∧ (∀ b, b ≠ 12 → S' b = S b) ∧ J_hit ms S' := by
  have h12 := J.1
  obtain ⟨a1, a2, a3, a4, a5⟩ := J.2.2.2.1 i (by omega)
  obtain ⟨b1, b2, b3, b4, b5⟩ := J.2.2.2.1 j hj
  have i1 : z_in (nI (12 * i + j)) 144 = true := z_in_nI (by omega) (by decide)
  have i2 : (nI (12 * i + j)).toNatClampNeg = 12 * i + j := z_cl (by omega)
  have hle := y_hit_le ms[i] ms[j]
  rw [E47, show (12 : Int32) * nI i + nI j = nI (12 * i + j) from z_pl 12 i j]
  simp only [g_8_5, z_bs, l_12 i1, i2]
  rcases H i j hij hj with h | h
  · refine ⟨z_ups S 12 (12 * i + j) (nI (y_hit ms[i] ms[j])), ?_, fun b hb => z_ups_ne hb, fun p q hpq hq => ?_⟩
    · rw [if_neg (fun q => q h)]
      simp only [g_8_2, o_8, z_bs, l_11 (z_in_nI (show i < 12 by omega) (by decide)), l_11 (z_in_nI (show j < 12 by omega) (by decide)), z_cl (show i < 2147483648 by omega), z_cl (show j < 2147483648 by omega), a1, b1, M48 a4 a3 b4 b3, s_12 i1, l_12 i1, i2, g_8_5, z_upsE, z_iT]
    · rw [z_upsE, if_pos rfl]
      by_cases e : 12 * p + q = 12 * i + j
      · rw [if_pos e]
        right
        have e1 : p = i := by omega
        have e2 : q = j := by omega
        subst e1; subst e2
        rfl
      · rw [if_neg e]
        exact H p q hpq hq
  · refine ⟨S, ?_, fun _ _ => rfl, H⟩
    rw [if_pos (by rw [h]; intro q; have := z_eq.mp q; rw [z_nI (by omega)] at this; have e1 : (-1 : Int32).toInt = -1 := rfl; omega), h]
/-- the model's touch -/
theorem M146_3 {i j t : Nat} {m : y_Mv} (hi : i < 12) (hm : y_mok m) (ht : t ≤ 600) : ∀ (n l : Nat) (S : Nat → Nat → Int32), y_mM S i m → l + n = m.2.2.2.2.1 + 1 → (∀ q, q < l → S 80 q = nI (y_P m (t - q))) → ∃ S', L146_3 (some 52) (nI i) (nI j) (nI t) (nI l) (z_mk L Dh S R nx sl) = L146_38 (some 52) (nI i) (nI j) (nI t) 0 (z_mk L Dh S' R nx sl) ∧ (∀ b, b ≠ 80 → S' b = S b) ∧ (∀ q, q ≤ m.2.2.2.2.1 → S' 80 q = nI (y_P m (t - q))) := by
  have i1 : z_in (nI i) 12 = true := z_in_nI hi (by decide)
  have i2 : (nI i).toNatClampNeg = i := z_cl (by omega)
  have h9 := hm.2.2.2.2.1
  intro n
  induction n with
  | zero =>
    intro l S M hl hq
    refine ⟨S, ?_, fun _ _ => rfl, fun q hq2 => hq q (by omega)⟩
    rw [E146_3]
    simp only [g_52_7, z_bs, l_59 i1, i2, M.2.2.2.2.1]
    rw [if_pos (nI_lt (by omega) (by omega))]
  | succ n ih =>
    intro l S M hl hq
    have l10 : z_in (nI l) 10 = true := z_in_nI (by omega) (by decide)
    have M2 : y_mM (z_ups S 80 l (nI (y_P m (t - l)))) i m := M
    obtain ⟨S', e1, e2, e3⟩ := ih (l + 1) _ M2 (by omega) (fun q hq2 => by
      rw [z_upsE, if_pos rfl]
      by_cases c : q = l
      · rw [if_pos c, c]
      · rw [if_neg c]; exact hq q (by omega))
    refine ⟨S', ?_, fun b hb => by rw [e2 b hb, z_ups_ne hb], e3⟩
    rw [E146_3]
    simp only [g_52_7, z_bs, l_59 i1, i2, M.2.2.2.2.1]
    rw [if_neg (Int32.not_lt.mpr (nI_le (by omega) (by omega)))]
    simp only [g_52_43, o_52, z_bs, M144 hi hm M ht (show l ≤ 600 by omega), s_80 l10, z_cl (show l < 2147483648 by omega), nI_1]
    exact e1
theorem M146_62 {i j t : Nat} {m k : y_Mv} (hi : i < 12) (hj : j < 12) (hm : y_mok m) (hk : y_mok k) (ht : t ≤ 600) (M : y_mM S i m) (K : y_mM S j k) (h80 : ∀ q, q ≤ m.2.2.2.2.1 → S 80 q = nI (y_P m (t - q))) {p b : Nat} (hp : p < 400) : ∀ (n l : Nat), l + n = m.2.2.2.2.1 + 1 → L146_62 (some 52) (nI i) (nI j) (nI t) (nI b) (nI p) (nI l) (z_mk L Dh S R nx sl) = if y_cn p (m.2.1 + k.2.1) m t n l = true then some (1, z_mk L Dh S R nx sl) else L146_38 (some 52) (nI i) (nI j) (nI t) (nI (b + 1)) (z_mk L Dh S R nx sl) := by
  have i1 : z_in (nI i) 12 = true := z_in_nI hi (by decide)
  have i2 : (nI i).toNatClampNeg = i := z_cl (by omega)
  have j1 : z_in (nI j) 12 = true := z_in_nI hj (by decide)
  have j2 : (nI j).toNatClampNeg = j := z_cl (by omega)
  have h9 := hm.2.2.2.2.1
  have hs1 := hm.2.1
  have hs2 := hk.2.1
  intro n
  induction n with
  | zero =>
    intro l hl
    rw [E146_62]
    simp only [g_52_7, z_bs, l_59 i1, i2, M.2.2.2.2.1]
    rw [if_pos (nI_lt (by omega) (by omega)), if_neg (by intro q; cases q), nI_1]
  | succ n ih =>
    intro l hl
    have l10 : z_in (nI l) 10 = true := z_in_nI (by omega) (by decide)
    have hpl := y_P_lt hm (t - l)
    have hf := y_far_lt hpl hp
    rw [E146_62]
    simp only [g_52_7, z_bs, l_59 i1, i2, M.2.2.2.2.1]
    rw [if_neg (Int32.not_lt.mpr (nI_le (by omega) (by omega)))]
    simp only [g_52_43, g_52_4, o_52, z_bs, l_80 l10, z_cl (show l < 2147483648 by omega), h80 l (by omega), M137 hpl hp, l_56 i1, l_56 j1, i2, j2, M.2.1, K.2.1, nI_1, nI_add]
    rw [y_cn_s, y_far_comm p]
    by_cases c : m.2.1 + k.2.1 < y_far (y_P m (t - l)) p
    · rw [if_pos (nI_lt c (by omega)), decide_eq_false (by omega), Bool.false_or]
      exact ih (l + 1) (by omega)
    · rw [if_neg (Int32.not_lt.mpr (nI_le (by omega) (by omega))), decide_eq_true (by omega), Bool.true_or, if_pos rfl]
def y_co (m k : y_Mv) (t : Nat) : Nat → Nat → Bool
  | 0, _ => false
  | j + 1, b => y_cn (y_P k (t - b)) (m.2.1 + k.2.1) m t (m.2.2.2.2.1 + 1) 0 || y_co m k t j (b + 1)
theorem y_co_s (m k : y_Mv) (t j b : Nat) : y_co m k t (j + 1) b = (y_cn (y_P k (t - b)) (m.2.1 + k.2.1) m t (m.2.2.2.2.1 + 1) 0 || y_co m k t j (b + 1)) := rfl
theorem y_co_iff {m k : y_Mv} {t : Nat} : ∀ (j b : Nat), y_co m k t j b = true ↔ ∃ i a, b ≤ i ∧ i < b + j ∧ a ≤ m.2.2.2.2.1 ∧ y_far (y_P m (t - a)) (y_P k (t - i)) ≤ m.2.1 + k.2.1
  | 0, b => by
    constructor
    · intro h; cases h
    · rintro ⟨i, a, h1, h2, -⟩; omega
  | j + 1, b => by
    rw [y_co_s, Bool.or_eq_true, y_cn_iff, y_co_iff j (b + 1)]
    constructor
    · rintro (⟨a, -, h2, h3⟩ | ⟨i, a, h1, h2, h3, h4⟩)
      · exact ⟨b, a, Nat.le_refl _, by omega, by omega, by rw [y_far_comm]; exact h3⟩
      · exact ⟨i, a, by omega, by omega, h3, h4⟩
    · rintro ⟨i, a, h1, h2, h3, h4⟩
      by_cases q : i = b
      · left
        exact ⟨a, by omega, by omega, by rw [y_far_comm, ← q]; exact h4⟩
      · right
        exact ⟨i, a, by omega, by omega, h3, h4⟩
theorem y_co_tch (m k : y_Mv) (t : Nat) : y_co m k t (k.2.2.2.2.1 + 1) 0 = y_tch m k t := by
  rw [Bool.eq_iff_iff, y_co_iff, y_tch_iff]
  constructor
  · rintro ⟨i, a, -, h2, h3, h4⟩
    exact ⟨a, i, h3, by omega, h4⟩
  · rintro ⟨a, i, h1, h2, h3⟩
    exact ⟨i, a, by omega, by omega, h1, h3⟩
theorem M146_38 {i j t : Nat} {m k : y_Mv} (hi : i < 12) (hj : j < 12) (hm : y_mok m) (hk : y_mok k) (ht : t ≤ 600) (M : y_mM S i m) (K : y_mM S j k) (h80 : ∀ q, q ≤ m.2.2.2.2.1 → S 80 q = nI (y_P m (t - q))) : ∀ (n b : Nat), b + n = k.2.2.2.2.1 + 1 → L146_38 (some 52) (nI i) (nI j) (nI t) (nI b) (z_mk L Dh S R nx sl) = some (if y_co m k t n b = true then 1 else 0, z_mk L Dh S R nx sl) := by
  have j1 : z_in (nI j) 12 = true := z_in_nI hj (by decide)
  have j2 : (nI j).toNatClampNeg = j := z_cl (by omega)
  have h9 := hk.2.2.2.2.1
  intro n
  induction n with
  | zero =>
    intro b hb
    rw [E146_38]
    simp only [g_52_7, z_bs, l_59 j1, j2, K.2.2.2.2.1]
    rw [if_pos (nI_lt (by omega) (by omega)), if_neg (by intro q; cases q)]
  | succ n ih =>
    intro b hb
    rw [E146_38]
    simp only [g_52_7, z_bs, l_59 j1, j2, K.2.2.2.2.1]
    rw [if_neg (Int32.not_lt.mpr (nI_le (by omega) (by omega)))]
    simp only [o_52, z_bs, M144 hj hk K ht (show b ≤ 600 by omega)]
    rw [show (0 : Int32) = nI 0 from rfl, M146_62 hi hj hm hk ht M K h80 (y_P_lt hk (t - b)) (m.2.2.2.2.1 + 1) 0 (by omega), y_co_s]
    by_cases c : y_cn (y_P k (t - b)) (m.2.1 + k.2.1) m t (m.2.2.2.2.1 + 1) 0 = true
    · rw [if_pos c, c, Bool.true_or, if_pos rfl]
    · rw [if_neg c, Bool.eq_false_iff.mpr c, Bool.false_or, ih (b + 1) (by omega)]
      rfl
theorem M146 {i j t : Nat} {m k : y_Mv} (hi : i < 12) (hj : j < 12) (hm : y_mok m) (hk : y_mok k) (ht : t ≤ 600) (M : y_mM S i m) (K : y_mM S j k) : ∃ S', z_cI 4 146 [.inr (.inr (some 52)), .inl (nI i), .inl (nI j), .inl (nI t)] (z_mk L Dh S R nx sl) = some (if y_tch m k t = true then 1 else 0, z_mk L Dh S' R nx sl) ∧ ∀ b, b ≠ 80 → S' b = S b := by
  obtain ⟨S', e1, e2, e3⟩ := M146_3 (L := L) (Dh := Dh) (R := R) (nx := nx) (sl := sl) (j := j) hi hm ht (m.2.2.2.2.1 + 1) 0 S M (by omega) (fun q hq => absurd hq (Nat.not_lt_zero _))
  refine ⟨S', ?_, e2⟩
  have M' : y_mM S' i m := by unfold y_mM; rw [e2 55 (by decide), e2 56 (by decide), e2 57 (by decide), e2 58 (by decide), e2 59 (by decide), e2 60 (by decide), e2 61 (by decide), e2 62 (by decide)]; exact M
  have K' : y_mM S' j k := by unfold y_mM; rw [e2 55 (by decide), e2 56 (by decide), e2 57 (by decide), e2 58 (by decide), e2 59 (by decide), e2 60 (by decide), e2 61 (by decide), e2 62 (by decide)]; exact K
  rw [E146, show (0 : Int32) = nI 0 from rfl, e1, show (0 : Int32) = nI 0 from rfl, M146_38 hi hj hm hk ht M' K' e3 (k.2.2.2.2.1 + 1) 0 (by omega), y_co_tch]
  rfl
theorem M147_2 {i j : Nat} {m k : y_Mv} (hi : i < 12) (hj : j < 12) (hm : y_mok m) (hk : y_mok k) : ∀ (n t : Nat) (S : Nat → Nat → Int32), y_mM S i m → y_mM S j k → t + n = 601 → ∃ S', L147_2 (some 52) (nI i) (nI j) (nI t) (z_mk L Dh S R nx sl) = some (if y_fi (y_tch m k) n t < 601 then nI (y_fi (y_tch m k) n t) else -9, z_mk L Dh S' R nx sl) ∧ ∀ b, b ≠ 80 → S' b = S b := by
  intro n
  induction n with
  | zero =>
    intro t S M K ht
    refine ⟨S, ?_, fun _ _ => rfl⟩
    rw [E147_2, if_pos (show (600 : Int32) < nI t from nI_lt (a := 600) (by omega) (by omega)), if_neg (show ¬ y_fi (y_tch m k) 0 t < 601 from fun q => absurd (show t < 601 from q) (by omega))]
  | succ n ih =>
    intro t S M K ht
    obtain ⟨S1, e1, e2⟩ := M146 (L := L) (Dh := Dh) (R := R) (nx := nx) (sl := sl) hi hj hm hk (show t ≤ 600 by omega) M K
    have M' : y_mM S1 i m := by unfold y_mM; rw [e2 55 (by decide), e2 56 (by decide), e2 57 (by decide), e2 58 (by decide), e2 59 (by decide), e2 60 (by decide), e2 61 (by decide), e2 62 (by decide)]; exact M
    have K' : y_mM S1 j k := by unfold y_mM; rw [e2 55 (by decide), e2 56 (by decide), e2 57 (by decide), e2 58 (by decide), e2 59 (by decide), e2 60 (by decide), e2 61 (by decide), e2 62 (by decide)]; exact K
    obtain ⟨S2, e3, e4⟩ := ih (t + 1) S1 M' K' (by omega)
    rw [E147_2, if_neg (show ¬ (600 : Int32) < nI t from Int32.not_lt.mpr (nI_le (b := 600) (by omega) (by decide))), y_fi_s]
    simp only [o_52, z_bs, e1, nI_1]
    by_cases c : y_tch m k t = true
    · refine ⟨S1, ?_, e2⟩
      simp only [c, z_tt, z_iT, z_10, z_iF]
      rw [if_pos (show t < 601 by omega)]
    · refine ⟨S2, ?_, fun b hb => (e4 b hb).trans (e2 b hb)⟩
      simp only [c, z_iF, z_e00, z_iT]
      exact e3
theorem M147 {i j : Nat} {m k : y_Mv} (hi : i < 12) (hj : j < 12) (hm : y_mok m) (hk : y_mok k) (M : y_mM S i m) (K : y_mM S j k) : ∃ S', z_cI 5 147 [.inr (.inr (some 52)), .inl (nI i), .inl (nI j)] (z_mk L Dh S R nx sl) = some (if y_hit m k < 601 then nI (y_hit m k) else -9, z_mk L Dh S' R nx sl) ∧ ∀ b, b ≠ 80 → S' b = S b := by
  rw [E147]
  exact M147_2 hi hj hm hk 601 0 S M K (by omega)
def A_hit (a : Nat) : Bool := decide (a ∈ [7, 12, 80, 86])
theorem J_hit_no {c : Int32} (H : J_hit ms S) : J_hit ms (z_no 86 (z_no 7 S c) c) := J_hit_fr H rfl
theorem S_hit (h_I_ref : I_ref S) (J : J_mov ms ad Dh S R nx) (H : J_hit ms S) (x y : Int32) : z_R2 (fun h => z_cI 6 87 [.inr (.inr (some 6)), .inl x, .inl y] h) (fun h => z_cI 6 148 [.inr (.inr (some 52)), .inl x, .inl y] h) L Dh S R nx sl A_hit K_0 (fun S' => I_ref S' ∧ J_hit ms S') := by
  have h12' := J.1
  by_cases d1 : x < 0 ∨ nI ms.length ≤ x
  · refine z_R2_no z_code1 rfl rfl h_I_ref ?_ ?_ ⟨z_no_ref h_I_ref z_code1, J_hit_no H⟩
    · show z_cI 6 87 _ _ = _
      rw [E87]
      simp only [g_6_1, o_8, M43x J d1, z_bs, z_nulN, z_tt, z_iT, o_6, M122 z_code1]
    · show z_cI 6 148 _ _ = _
      rw [E148]
      simp only [o_52, z_bs, M133 (show z_no 7 S (-1) 52 2 = nI ms.length from J.2.2.1), d1, z_iT, z_e00, M131 z_code1]
  · obtain ⟨i, hi, rfl⟩ := z_plc (by omega) (fun q => d1 (Or.inl q)) (fun q => d1 (Or.inr q))
    obtain ⟨a1, a2, a3, a4, a5⟩ := J.2.2.2.1 i hi
    have ha87 := a4.1.1
    by_cases d2 : y < 0 ∨ nI ms.length ≤ y
    · refine z_R2_no z_code1 rfl rfl h_I_ref ?_ ?_ ⟨z_no_ref h_I_ref z_code1, J_hit_no H⟩
      · show z_cI 6 87 _ _ = _
        rw [E87]
        simp only [g_6_1, o_8, M43n J hi, M43x J d2, z_bs, z_nulN, z_nulS (show 6 ≤ ad i by omega), z_ff, z_iF, z_tt, z_iT, o_6, M122 z_code1]
      · show z_cI 6 148 _ _ = _
        rw [E148]
        simp only [o_52, z_bs, M133 (show z_no 7 S (-1) 52 2 = nI ms.length from J.2.2.1), d1, d2, z_iF, z_10, z_iT, z_e00, M131 z_code1]
    · obtain ⟨j, hj, rfl⟩ := z_plc (by omega) (fun q => d2 (Or.inl q)) (fun q => d2 (Or.inr q))
      obtain ⟨b1, b2, b3, b4, b5⟩ := J.2.2.2.1 j hj
      have hb87 := b4.1.1
      by_cases d3 : i = j
      · subst d3
        refine z_R2_no z_code1 rfl rfl h_I_ref ?_ ?_ ⟨z_no_ref h_I_ref z_code1, J_hit_no H⟩
        · show z_cI 6 87 _ _ = _
          rw [E87]
          simp only [g_6_1, o_8, M43n J hi, z_bs, z_nulS (show 6 ≤ ad i by omega), z_ff, z_iF, not_true, o_6, M122 z_code1]
        · show z_cI 6 148 _ _ = _
          rw [E148]
          simp only [o_52, z_bs, M133 (show z_no 7 S (-1) 52 2 = nI ms.length from J.2.2.1), d1, z_iF, z_10, not_true, M131 z_code1]
      · have nij : ¬ nI i = nI j := fun q => d3 ((nI_eq (by omega) (by omega)).mp q)
        have hle := y_hit_le ms[i] ms[j]
        obtain ⟨S1, e1, e2, e3⟩ : ∃ S', z_cI 5 47 [.inr (.inr (some 8)), .inl (nI (min i j)), .inl (nI (max i j))] (z_mk L Dh S R nx sl) = some (nI (y_hit ms[i] ms[j]), z_mk L Dh S' R nx sl) ∧ (∀ b, b ≠ 12 → S' b = S b) ∧ J_hit ms S' := by
          rcases Nat.lt_or_gt_of_ne d3 with q | q
          · rw [Nat.min_eq_left (by omega), Nat.max_eq_right (by omega)]
            exact M47 J H q hj
          · rw [Nat.min_eq_right (by omega), Nat.max_eq_left (by omega), y_hit_comm]
            exact M47 J H q hi
        have J1 : J_mov ms ad Dh S1 R nx := J_mov_fr J ⟨by rw [e2 8 (by decide)], by rw [e2 52 (by decide)], e2 55 (by decide), e2 56 (by decide), e2 57 (by decide), e2 58 (by decide), e2 59 (by decide), e2 60 (by decide), e2 61 (by decide), e2 62 (by decide), fun b hb => e2 b (by omega)⟩
        obtain ⟨S2, e4, e5⟩ := M147 (L := L) (Dh := Dh) (R := R) (nx := nx) (sl := sl) (show i < 12 by omega) (show j < 12 by omega) a3 b3 (J1.2.2.2.1 i hi).2.2.2.2 (J1.2.2.2.1 j hj).2.2.2.2
        refine ⟨if y_hit ms[i] ms[j] < 601 then nI (y_hit ms[i] ms[j]) else -9, S1, S2, ?_, ?_, ⟨fun b hb h52 => ?_, fun k _ => ?_⟩, ?_, J_hit_fr e3 (e5 12 (by decide))⟩
        · show z_cI 6 87 _ _ = _
          rw [E87]
          simp only [g_6_1, o_8, M43n J hi, M43n J hj, z_bs, z_nulS (show 6 ≤ ad i by omega), z_nulS (show 6 ≤ ad j by omega), z_ff, z_iF, nij, not_false_eq_true, z_iT, M229, M230, y_max (show i < 1000000 by omega) (show j < 1000000 by omega), y_min (show i < 1000000 by omega) (show j < 1000000 by omega), e1]
          by_cases q : y_hit ms[i] ms[j] < 601
          · rw [if_pos q, if_pos (show nI _ ≤ (600 : Int32) from nI_le (b := 600) (by omega) (by decide))]
          · rw [if_neg q, if_neg (show ¬ nI _ ≤ (600 : Int32) from nI_ge (a := 600) (by omega) (by omega))]
        · show z_cI 6 148 _ _ = _
          rw [E148]
          simp only [o_52, z_bs, M133 (show S1 52 2 = nI ms.length from J1.2.2.1), d1, d2, z_iF, z_10, nij, not_false_eq_true, z_iT, e4]
        · unfold A_hit at hb
          have hb := of_decide_eq_false hb
          rw [e5 b (fun q => hb (by rw [q]; decide)), e2 b (fun q => hb (by rw [q]; decide))]
        · rw [e5 52 (by decide), e2 52 (by decide)]
        · exact I_ref_fr h_I_ref ⟨by rw [e5 7 (by decide), e2 7 (by decide)], by rw [e5 86 (by decide), e2 86 (by decide)]⟩

end ZSL
