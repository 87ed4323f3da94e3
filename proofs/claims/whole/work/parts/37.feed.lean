section ZRZ
variable {L : Nat} {Dh : Nat → z_Sh} {S : Nat → Nat → Int32} {R : Nat → Nat → Option Nat} {nx sl : Nat}
/-- wind, glare, sun, takes -/
def I_tel (S : Nat → Nat → Int32) : Prop := (∀ i, i < 3 → S 22 i = S 64 i) ∧ S 22 3 = S 52 16
theorem I_tel_fr {S S' : Nat → Nat → Int32} (h : I_tel S) (e : S' 22 = S 22 ∧ S' 64 = S 64 ∧ S' 52 16 = S 52 16) : I_tel S' := by
  obtain ⟨e1, e2, e3⟩ := e
  unfold I_tel
  rw [e1, e2, e3]
  exact h
theorem z_no_tel {c : Int32} (h : I_tel S) : I_tel (z_no 86 (z_no 7 S c) c) := I_tel_fr h ⟨rfl, rfl, rfl⟩
def A_tel (a : Nat) : Bool := decide (a ∈ [7, 22, 64, 86])
theorem z_plc3 {x : Int32} (c1 : ¬ x < 0) (c2 : ¬ 2 < x) : ∃ i : Nat, i < 3 ∧ x = nI i := z_plc (n := 3) (by omega) c1 (fun q => c2 (z_lt.mpr (by have := z_le.mp q; have e : (nI 3).toInt = 3 := rfl; have e2 : (2 : Int32).toInt = 2 := rfl; omega)))

theorem M97 {w v : Int32} : z_cI 2 97 [.inr (.inr (some 6)), .inl w, .inl v] (z_mk L Dh S R nx sl) = if w < 0 ∨ 2 < w then some (-2, z_mk L Dh (z_no 7 S (-2)) R nx sl) else if v < 0 then some (-4, z_mk L Dh (z_no 7 S (-4)) R nx sl) else if (if w = 2 then 999 else 99) < v then some (-6, z_mk L Dh (z_no 7 S (-6)) R nx sl) else some (S 22 w.toNatClampNeg, z_mk L Dh (z_ups S 22 w.toNatClampNeg v) R nx sl) := by
  rw [E97]
  have e : ∀ h : z_H, (if ¬ w = 2 then L97_41 (some 6) w v 99 v h else L97_41 (some 6) w v 999 v h) = L97_41 (some 6) w v (if w = 2 then 999 else 99) v h := fun h => by
    by_cases q : w = 2
    · rw [if_neg (fun k => k q), if_pos q]
    · rw [if_pos q, if_neg q]
  simp only [e]
  simp only [z_bs, M122 z_code2, M122 z_code4, M122 z_code6, o_6, g_6_3, g_18_3, E97_41]
  by_cases c1 : w < 0
  · simp only [c1, Int32.not_le.mpr c1, true_or, or_true, or_self, false_or, or_false, not_true, not_false_eq_true, Classical.not_not, z_10, z_iT, z_iF]
  · skip
    by_cases c2 : 2 < w
    · simp only [c1, Int32.not_lt.mp c1, c2, Int32.not_le.mpr c2, true_or, or_true, or_self, false_or, or_false, not_true, not_false_eq_true, Classical.not_not, z_10, z_iT, z_iF]
    · skip
      by_cases c3 : v < 0
      · simp only [c1, Int32.not_lt.mp c1, c2, Int32.not_lt.mp c2, c3, Int32.not_le.mpr c3, true_or, or_true, or_self, false_or, or_false, not_true, not_false_eq_true, Classical.not_not, z_10, z_iT, z_iF]
      · skip
        by_cases c4 : (if w = 2 then 999 else 99) < v
        · simp only [c1, Int32.not_lt.mp c1, c2, Int32.not_lt.mp c2, c3, Int32.not_lt.mp c3, c4, Int32.not_le.mpr c4, true_or, or_true, or_self, false_or, or_false, not_true, not_false_eq_true, Classical.not_not, z_10, z_iT, z_iF]
        · skip
          simp only [c1, Int32.not_lt.mp c1, c2, Int32.not_lt.mp c2, c3, Int32.not_lt.mp c3, c4, Int32.not_lt.mp c4, true_or, or_true, or_self, false_or, or_false, not_true, not_false_eq_true, Classical.not_not, z_10, z_iT, z_iF]
          obtain ⟨j, hj, rfl⟩ := z_plc3 c1 c2
          have h1 : z_in (nI j) 7 = true := z_in_nI (by omega) (by decide)
          simp only [l_22 h1, s_22 h1, z_bs]
theorem M170 {w v : Int32} : z_cI 2 170 [.inr (.inr (some 52)), .inl w, .inl v] (z_mk L Dh S R nx sl) = if w < 0 ∨ 2 < w then some (-2, z_mk L Dh (z_no 86 S (-2)) R nx sl) else if v < 0 then some (-4, z_mk L Dh (z_no 86 S (-4)) R nx sl) else if (if w = 2 then 999 else 99) < v then some (-6, z_mk L Dh (z_no 86 S (-6)) R nx sl) else some (S 64 w.toNatClampNeg, z_mk L Dh (z_ups S 64 w.toNatClampNeg v) R nx sl) := by
  rw [E170]
  have e : ∀ h : z_H, (if ¬ w = 2 then L170_41 (some 52) w v 99 v h else L170_41 (some 52) w v 999 v h) = L170_41 (some 52) w v (if w = 2 then 999 else 99) v h := fun h => by
    by_cases q : w = 2
    · rw [if_neg (fun k => k q), if_pos q]
    · rw [if_pos q, if_neg q]
  simp only [e]
  simp only [z_bs, M131 z_code2, M131 z_code4, M131 z_code6, o_52, g_52_14, E170_41]
  by_cases c1 : w < 0
  · simp only [c1, Int32.not_le.mpr c1, true_or, or_true, or_self, false_or, or_false, not_true, not_false_eq_true, Classical.not_not, z_10, z_iT, z_iF]
  · skip
    by_cases c2 : 2 < w
    · simp only [c1, Int32.not_lt.mp c1, c2, Int32.not_le.mpr c2, true_or, or_true, or_self, false_or, or_false, not_true, not_false_eq_true, Classical.not_not, z_10, z_iT, z_iF]
    · skip
      by_cases c3 : v < 0
      · simp only [c1, Int32.not_lt.mp c1, c2, Int32.not_lt.mp c2, c3, Int32.not_le.mpr c3, true_or, or_true, or_self, false_or, or_false, not_true, not_false_eq_true, Classical.not_not, z_10, z_iT, z_iF]
      · skip
        by_cases c4 : (if w = 2 then 999 else 99) < v
        · simp only [c1, Int32.not_lt.mp c1, c2, Int32.not_lt.mp c2, c3, Int32.not_lt.mp c3, c4, Int32.not_le.mpr c4, true_or, or_true, or_self, false_or, or_false, not_true, not_false_eq_true, Classical.not_not, z_10, z_iT, z_iF]
        · skip
          simp only [c1, Int32.not_lt.mp c1, c2, Int32.not_lt.mp c2, c3, Int32.not_lt.mp c3, c4, Int32.not_lt.mp c4, true_or, or_true, or_self, false_or, or_false, not_true, not_false_eq_true, Classical.not_not, z_10, z_iT, z_iF]
          obtain ⟨j, hj, rfl⟩ := z_plc3 c1 c2
          have h1 : z_in (nI j) 3 = true := z_in_nI (by omega) (by decide)
          simp only [l_64 h1, s_64 h1, z_bs]
theorem S_tell (h_I_ref : I_ref S) (h_I_tel : I_tel S) (w v : Int32) : z_R2 (fun h => z_cI 2 97 [.inr (.inr (some 6)), .inl w, .inl v] h) (fun h => z_cI 2 170 [.inr (.inr (some 52)), .inl w, .inl v] h) L Dh S R nx sl A_tel K_0 (fun S' => I_ref S' ∧ I_tel S' ∧ ∀ k, 3 ≤ k → S' 22 k = S 22 k) := by
  by_cases d1 : w < 0 ∨ 2 < w
  · refine z_R2_no z_code2 rfl rfl h_I_ref ?_ ?_ ⟨z_no_ref h_I_ref z_code2, z_no_tel h_I_tel, fun k _ => rfl⟩
    · show z_cI 2 97 _ _ = _
      rw [M97 , if_pos d1]
    · show z_cI 2 170 _ _ = _
      rw [M170 (S := z_no 7 S (-2)) , if_pos d1]
  · skip
    by_cases d2 : v < 0
    · refine z_R2_no z_code4 rfl rfl h_I_ref ?_ ?_ ⟨z_no_ref h_I_ref z_code4, z_no_tel h_I_tel, fun k _ => rfl⟩
      · show z_cI 2 97 _ _ = _
        rw [M97 , if_neg d1, if_pos d2]
      · show z_cI 2 170 _ _ = _
        rw [M170 (S := z_no 7 S (-4)) , if_neg d1, if_pos d2]
    · skip
      by_cases d3 : (if w = 2 then 999 else 99) < v
      · refine z_R2_no z_code6 rfl rfl h_I_ref ?_ ?_ ⟨z_no_ref h_I_ref z_code6, z_no_tel h_I_tel, fun k _ => rfl⟩
        · show z_cI 2 97 _ _ = _
          rw [M97 , if_neg d1, if_neg d2, if_pos d3]
        · show z_cI 2 170 _ _ = _
          rw [M170 (S := z_no 7 S (-6)) , if_neg d1, if_neg d2, if_pos d3]
      · skip
        obtain ⟨j, hj, rfl⟩ := z_plc3 (fun q => d1 (Or.inl q)) (fun q => d1 (Or.inr q))
        have e := h_I_tel.1 j hj
        have hc : (nI j).toNatClampNeg = j := z_cl (by omega)
        refine ⟨S 22 j, z_ups S 22 j v, z_ups (z_ups S 22 j v) 64 j v, ?_, ?_, z_fr_ups (z_fr_ups z_fr_id rfl (by decide)) rfl (by decide), I_ref_fr h_I_ref ⟨rfl, rfl⟩, ?_, ?_⟩
        · show z_cI 2 97 _ _ = _
          rw [M97, if_neg d1, if_neg d2, if_neg d3, hc]
        · show z_cI 2 170 _ _ = _
          rw [M170 (S := z_ups S 22 j v), if_neg d1, if_neg d2, if_neg d3, hc, e]
          rfl
        · refine ⟨fun i hi => ?_, ?_⟩
          · simp only [z_upsE, Nat.reduceEqDiff, z_iF, z_iT]
            by_cases q : i = j
            · rw [if_pos q, if_pos q]
            · rw [if_neg q, if_neg q]; exact h_I_tel.1 i hi
          · simp only [z_upsE, Nat.reduceEqDiff, z_iF, z_iT]
            rw [if_neg (by omega)]
            exact h_I_tel.2
        · intro k hk
          simp only [z_upsE, Nat.reduceEqDiff, z_iF, z_iT]
          rw [if_neg (by omega)]
/-- the tape -/
def I_tap (S : Nat → Nat → Int32) : Prop := ∃ t : Nat, t ≤ 60 ∧ S 19 1 = nI t ∧ S 52 18 = nI t ∧ ∀ i, i < t → S 20 i = S 65 i ∧ -128 ≤ (S 20 i).toInt ∧ (S 20 i).toInt ≤ 127
theorem I_tap_fr {S S' : Nat → Nat → Int32} (h : I_tap S) (e : S' 19 1 = S 19 1 ∧ S' 20 = S 20 ∧ S' 65 = S 65 ∧ S' 52 18 = S 52 18) : I_tap S' := by
  obtain ⟨e1, e2, e3, e4⟩ := e
  unfold I_tap
  rw [e1, e2, e3, e4]
  exact h
theorem z_no_tap {c : Int32} (h : I_tap S) : I_tap (z_no 86 (z_no 7 S c) c) := I_tap_fr h ⟨rfl, rfl, rfl, rfl⟩
def A_tap (a : Nat) : Bool := decide (a ∈ [7, 19, 20, 65, 86])
def K_tap (k : Nat) : Bool := decide (k ∈ [18])
def z_by (b : Int64) (i : Nat) : Int32 := ((b >>> ((8 * nI i : Int32).toInt64 &&& 63)).toInt32.toInt8.toInt32).toInt8.toInt32
/-- i bytes are put behind t -/
def z_fe (S : Nat → Nat → Int32) (c f k t : Nat) (b : Int64) : Nat → (Nat → Nat → Int32)
  | 0 => S
  | i + 1 => z_ups (z_ups (z_fe S c f k t b i) c (t + i) (z_by b i)) f k (nI (t + i + 1))
theorem z_fe_f {c f k t : Nat} {b : Int64} (hf : S f k = nI t) : ∀ i, z_fe S c f k t b i f k = nI (t + i)
  | 0 => hf
  | i + 1 => by show z_ups _ f k _ f k = _; rw [z_upsE, if_pos rfl, if_pos rfl]; rfl
theorem z_fe_ne {c f k t : Nat} {b : Int64} {a : Nat} (h1 : a ≠ c) (h2 : a ≠ f) : ∀ i, z_fe S c f k t b i a = S a
  | 0 => rfl
  | i + 1 => by show z_ups _ f k _ a = _; rw [z_ups_ne h2, z_ups_ne h1, z_fe_ne h1 h2 i]
theorem z_fe_k {c f k t : Nat} {b : Int64} {j : Nat} (h1 : f ≠ c) (h2 : j ≠ k) : ∀ i, z_fe S c f k t b i f j = S f j
  | 0 => rfl
  | i + 1 => by show z_ups _ f k _ f j = _; rw [z_upsE, if_pos rfl, if_neg h2, z_ups_ne h1, z_fe_k h1 h2 i]
theorem z_fe_c {c f k t : Nat} {b : Int64} (h1 : c ≠ f) (x : Nat) : ∀ i, z_fe S c f k t b i c x = if t ≤ x ∧ x < t + i then z_by b (x - t) else S c x
  | 0 => by rw [if_neg (by omega)]; rfl
  | i + 1 => by
    show z_ups _ f k _ c x = _
    rw [z_ups_ne h1, z_upsE, if_pos rfl, z_fe_c h1 x i]
    by_cases q : x = t + i
    · subst q
      rw [if_pos rfl, if_pos (by omega), show t + i - t = i by omega]
    · rw [if_neg q]
      by_cases q2 : t ≤ x ∧ x < t + i
      · rw [if_pos q2, if_pos (by omega)]
      · rw [if_neg q2, if_neg (by omega)]
theorem M69_3 {t n : Nat} (hS : S 19 1 = nI t) (hn : t + n ≤ 60) (b : Int64) : ∀ (j i : Nat), i + j = n → L69_3 (some 19) (nI n) b (nI i) (z_mk L Dh (z_fe S 20 19 1 t b i) R nx sl) = some (nI (t + n), z_mk L Dh (z_fe S 20 19 1 t b n) R nx sl) := by
  intro j
  induction j with
  | zero =>
    intro i hi
    have e : i = n := by omega
    subst e
    rw [E69_3, if_pos (Int32.le_refl _)]
    simp only [g_19_1, z_bs, z_fe_f hS]
  | succ j ih =>
    intro i hi
    have ih := ih (i + 1) (by omega)
    have h1 : z_in (nI (t + i)) 60 = true := z_in_nI (by omega) (by decide)
    have h2 : (nI (t + i)).toNatClampNeg = t + i := z_cl (by omega)
    rw [E69_3, if_neg (nI_ge (by omega) (by omega))]
    simp only [g_19_0, g_19_1, z_bs, z_fe_f hS, n_20]
    rw [if_neg (show ¬ (60 : Int32) ≤ nI (t + i) from nI_ge (a := t + i) (b := 60) (by omega) (by decide))]
    simp only [s_20 h1, h2, z_bs, g_19_1, p_19_1, z_ups_ne (show (19 : Nat) ≠ 20 by decide), z_fe_f hS, nI_1]
    exact ih
theorem M171_39 {t n : Nat} (hS : S 52 18 = nI t) (hn : t + n ≤ 60) (b : Int64) : ∀ (j i : Nat), i + j = n → L171_39 (some 52) (nI n) b (nI i) (z_mk L Dh (z_fe S 65 52 18 t b i) R nx sl) = some (nI (t + n), z_mk L Dh (z_fe S 65 52 18 t b n) R nx sl) := by
  intro j
  induction j with
  | zero =>
    intro i hi
    have e : i = n := by omega
    subst e
    rw [E171_39, if_pos (Int32.le_refl _)]
    simp only [g_52_18, z_bs, z_fe_f hS]
  | succ j ih =>
    intro i hi
    have ih := ih (i + 1) (by omega)
    have h1 : z_in (nI (t + i)) 60 = true := z_in_nI (by omega) (by decide)
    have h2 : (nI (t + i)).toNatClampNeg = t + i := z_cl (by omega)
    rw [E171_39, if_neg (nI_ge (by omega) (by omega))]
    simp only [g_52_17, g_52_18, z_bs, z_fe_f hS, s_65 h1, h2, p_52_18, z_ups_ne (show (52 : Nat) ≠ 65 by decide), nI_1]
    exact ih
theorem M98 {t : Nat} (ht : t ≤ 60) (hS : S 19 1 = nI t) {a : Int32} {b : Int64} : z_cI 2 98 [.inr (.inr (some 6)), .inl a, .inr (.inl b)] (z_mk L Dh S R nx sl) = if a < 1 then some (-4, z_mk L Dh (z_no 7 S (-4)) R nx sl) else if 8 < a ∨ 60 < nI t + a then some (-6, z_mk L Dh (z_no 7 S (-6)) R nx sl) else some (nI (t + a.toNatClampNeg), z_mk L Dh (z_fe S 20 19 1 t b a.toNatClampNeg) R nx sl) := by
  rw [E98]
  simp only [z_bs, M122 z_code4, M122 z_code6, o_6, g_6_3, g_18_0, g_19_1, hS, o_19]
  by_cases c1 : a < 1
  · rw [if_neg (Int32.not_le.mpr c1), if_pos c1]
  · rw [if_pos (Int32.not_lt.mp c1), if_neg c1]
    by_cases c2 : 8 < a
    · rw [if_pos c2, if_pos (Or.inl c2)]
    · rw [if_neg c2]
      by_cases c3 : 60 < nI t + a
      · rw [if_neg (Int32.not_le.mpr c3), if_pos (Or.inr c3)]
      · rw [if_pos (Int32.not_lt.mp c3), if_neg (fun q => q.elim c2 c3)]
        obtain ⟨n, hn, rfl⟩ := nI_of2 (x := a) (M := 8) (n := 8) rfl (fun q => c1 (z_lt.mpr (by have := z_lt.mp q; have e0 : (0 : Int32).toInt = 0 := rfl; have e1 : (1 : Int32).toInt = 1 := rfl; omega))) (Int32.not_lt.mp c2)
        have hc : (nI n).toNatClampNeg = n := z_cl (by omega)
        have htn : t + n ≤ 60 := by
          have := z_le.mp (Int32.not_lt.mp c3)
          rw [nI_add, z_nI (by omega)] at this
          have e : (60 : Int32).toInt = 60 := rfl
          omega
        rw [E69]
        have := M69_3 (L := L) (Dh := Dh) (S := S) (R := R) (nx := nx) (sl := sl) hS htn b n 0 (by omega)
        have this : L69_3 (some 19) (nI n) b 0 (z_mk L Dh S R nx sl) = _ := this
        rw [this, hc]
        simp only [z_bs]
theorem M171 {t : Nat} (ht : t ≤ 60) (hS : S 52 18 = nI t) {a : Int32} {b : Int64} : z_cI 2 171 [.inr (.inr (some 52)), .inl a, .inr (.inl b)] (z_mk L Dh S R nx sl) = if a < 1 then some (-4, z_mk L Dh (z_no 86 S (-4)) R nx sl) else if 8 < a ∨ 60 < nI t + a then some (-6, z_mk L Dh (z_no 86 S (-6)) R nx sl) else some (nI (t + a.toNatClampNeg), z_mk L Dh (z_fe S 65 52 18 t b a.toNatClampNeg) R nx sl) := by
  rw [E171]
  simp only [z_bs, M131 z_code4, M131 z_code6, o_52, g_52_18, hS]
  by_cases c1 : a < 1
  · rw [if_neg (Int32.not_le.mpr c1), if_pos c1]
  · rw [if_pos (Int32.not_lt.mp c1), if_neg c1]
    by_cases c2 : 8 < a
    · rw [if_pos c2, if_pos (Or.inl c2)]
    · rw [if_neg c2]
      by_cases c3 : 60 < nI t + a
      · rw [if_neg (Int32.not_le.mpr c3), if_pos (Or.inr c3)]
      · rw [if_pos (Int32.not_lt.mp c3), if_neg (fun q => q.elim c2 c3)]
        obtain ⟨n, hn, rfl⟩ := nI_of2 (x := a) (M := 8) (n := 8) rfl (fun q => c1 (z_lt.mpr (by have := z_lt.mp q; have e0 : (0 : Int32).toInt = 0 := rfl; have e1 : (1 : Int32).toInt = 1 := rfl; omega))) (Int32.not_lt.mp c2)
        have hc : (nI n).toNatClampNeg = n := z_cl (by omega)
        have htn : t + n ≤ 60 := by
          have := z_le.mp (Int32.not_lt.mp c3)
          rw [nI_add, z_nI (by omega)] at this
          have e : (60 : Int32).toInt = 60 := rfl
          omega
        have := M171_39 (L := L) (Dh := Dh) (S := S) (R := R) (nx := nx) (sl := sl) hS htn b n 0 (by omega)
        have this : L171_39 (some 52) (nI n) b 0 (z_mk L Dh S R nx sl) = _ := this
        rw [this, hc]
theorem z_by_lo (b : Int64) (i : Nat) : -128 ≤ (z_by b i).toInt ∧ (z_by b i).toInt ≤ 127 := by
  unfold z_by
  generalize (b >>> ((8 * nI i : Int32).toInt64 &&& 63)).toInt32.toInt8.toInt32.toInt8 = x
  rw [Int8.toInt_toInt32]
  have h1 := Int8.le_toInt x
  have h2 := Int8.toInt_lt x
  omega
theorem S_feed (h_I_ref : I_ref S) (h_I_tap : I_tap S) (a : Int32) (b : Int64) : z_R2 (fun h => z_cI 2 98 [.inr (.inr (some 6)), .inl a, .inr (.inl b)] h) (fun h => z_cI 2 171 [.inr (.inr (some 52)), .inl a, .inr (.inl b)] h) L Dh S R nx sl A_tap K_tap (fun S' => I_ref S' ∧ I_tap S' ∧ ∀ k, k ≠ 1 → S' 19 k = S 19 k) := by
  obtain ⟨t, h1, h2, h3, h4⟩ := id h_I_tap
  by_cases d1 : a < 1
  · refine z_R2_no z_code4 rfl rfl h_I_ref ?_ ?_ ⟨z_no_ref h_I_ref z_code4, z_no_tap h_I_tap, fun k _ => rfl⟩
    · show z_cI 2 98 _ _ = _
      rw [M98 h1 h2, if_pos d1]
    · show z_cI 2 171 _ _ = _
      rw [M171 (S := z_no 7 S (-4)) h1 h3, if_pos d1]
  · by_cases d2 : 8 < a ∨ 60 < nI t + a
    · refine z_R2_no z_code6 rfl rfl h_I_ref ?_ ?_ ⟨z_no_ref h_I_ref z_code6, z_no_tap h_I_tap, fun k _ => rfl⟩
      · show z_cI 2 98 _ _ = _
        rw [M98 h1 h2, if_neg d1, if_pos d2]
      · show z_cI 2 171 _ _ = _
        rw [M171 (S := z_no 7 S (-6)) h1 h3, if_neg d1, if_pos d2]
    · obtain ⟨n, hn, rfl⟩ := nI_of2 (x := a) (M := 8) (n := 8) rfl (fun q => d1 (z_lt.mpr (by have := z_lt.mp q; have e0 : (0 : Int32).toInt = 0 := rfl; have e1 : (1 : Int32).toInt = 1 := rfl; omega))) (Int32.not_lt.mp (fun q => d2 (Or.inl q)))
      have hc : (nI n).toNatClampNeg = n := z_cl (by omega)
      have htn : t + n ≤ 60 := by
        have := z_le.mp (Int32.not_lt.mp (fun q => d2 (Or.inr q)))
        rw [nI_add, z_nI (by omega)] at this
        have e : (60 : Int32).toInt = 60 := rfl
        omega
      have e3 : z_fe S 20 19 1 t b n 52 18 = nI t := by rw [z_fe_ne (by decide) (by decide)]; exact h3
      have F : ∀ a, a ≠ 20 → a ≠ 19 → a ≠ 65 → a ≠ 52 → z_fe (z_fe S 20 19 1 t b n) 65 52 18 t b n a = S a := fun a q1 q2 q3 q4 => by rw [z_fe_ne q3 q4, z_fe_ne q1 q2]
      have F19 : z_fe (z_fe S 20 19 1 t b n) 65 52 18 t b n 19 = z_fe S 20 19 1 t b n 19 := z_fe_ne (by decide) (by decide) n
      have F20 : z_fe (z_fe S 20 19 1 t b n) 65 52 18 t b n 20 = z_fe S 20 19 1 t b n 20 := z_fe_ne (by decide) (by decide) n
      refine ⟨nI (t + n), z_fe S 20 19 1 t b n, z_fe (z_fe S 20 19 1 t b n) 65 52 18 t b n, ?_, ?_, ⟨fun a ha h52 => ?_, fun k hk => ?_⟩, I_ref_fr h_I_ref ⟨F 7 (by decide) (by decide) (by decide) (by decide), F 86 (by decide) (by decide) (by decide) (by decide)⟩, ⟨t + n, htn, ?_, z_fe_f e3 n, fun i hi => ?_⟩, fun k hk => ?_⟩
      · show z_cI 2 98 _ _ = _
        rw [M98 h1 h2, if_neg d1, if_neg d2, hc]
      · show z_cI 2 171 _ _ = _
        rw [M171 (S := z_fe S 20 19 1 t b n) h1 e3, if_neg d1, if_neg d2, hc]
      · exact F a (fun q => by subst q; cases ha) (fun q => by subst q; cases ha) (fun q => by subst q; cases ha) h52
      · rw [z_fe_k (by decide) (fun q => by subst q; cases hk) n, z_fe_ne (by decide) (by decide) n]
      · rw [F19]; exact z_fe_f h2 n
      · rw [F20, z_fe_c (by decide) i n, z_fe_c (by decide) i n, z_fe_ne (by decide) (by decide) n]
        by_cases q : t ≤ i ∧ i < t + n
        · rw [if_pos q, if_pos q]
          exact ⟨rfl, z_by_lo _ _⟩
        · rw [if_neg q, if_neg q]
          exact h4 i (by omega)
      · rw [F19]; exact z_fe_k (by decide) hk n
end ZRZ
