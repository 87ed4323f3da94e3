section ZRY
variable {L : Nat} {Dh : Nat → z_Sh} {S : Nat → Nat → Int32} {R : Nat → Nat → Option Nat} {nx sl : Nat}
/-- speeds that land: how many, least, greatest, of the first k -/
def z_spd (q : Nat → Bool) : Nat → Int32 × Int32 × Int32
  | 0 => (0, -9, -9)
  | k + 1 => if q (k + 1) = true then ((z_spd q k).1 + 1, (if (z_spd q k).1 = 0 then nI (k + 1) else (z_spd q k).2.1), nI (k + 1)) else z_spd q k
def z_spw (w : Int32) (p : Int32 × Int32 × Int32) : Int32 := if ¬ w = 0 then (if ¬ w = 1 then p.2.2 else p.2.1) else p.1
def z_spq (a b e f : Int32) (k : Nat) : Bool := decide (¬ z_land a b (nI k) < e) && decide (¬ e + f < z_land a b (nI k))
theorem z_spd_inv (q : Nat → Bool) : ∀ k : Nat, k ≤ 99 → ∃ c : Nat, c ≤ k ∧ (z_spd q k).1 = nI c ∧ ((c = 0 ∧ (z_spd q k).2.1 = -9) ∨ (0 < c ∧ 0 ≤ (z_spd q k).2.1.toInt))
  | 0, _ => ⟨0, Nat.le_refl _, rfl, Or.inl ⟨rfl, rfl⟩⟩
  | k + 1, hk => by
    obtain ⟨c, h1, h2, h3⟩ := z_spd_inv q k (by omega)
    unfold z_spd
    by_cases d : q (k + 1) = true
    · rw [if_pos d]
      refine ⟨c + 1, by omega, ?_, Or.inr ⟨by omega, ?_⟩⟩
      · show (z_spd q k).1 + 1 = _
        rw [h2]; exact nI_1 c
      · show 0 ≤ (if (z_spd q k).1 = 0 then nI (k + 1) else (z_spd q k).2.1).toInt
        by_cases e : (z_spd q k).1 = 0
        · rw [if_pos e, z_nI (by omega)]; omega
        · rw [if_neg e]
          rcases h3 with ⟨rfl, -⟩ | ⟨-, h4⟩
          · exact absurd (by rw [h2]; rfl) e
          · exact h4
    · rw [if_neg d]
      exact ⟨c, by omega, h2, h3⟩
theorem M37_13 {i : Nat} (hi : i < 8) (hb : 1 ≤ (S 25 i).toInt) (w : Int32) : ∀ (j k : Nat), k + j = 99 → L37_13 (some 23) (nI i) w (z_spd (z_spq (S 24 i) (S 25 i) (S 26 i) (S 27 i)) k).1 (z_spd (z_spq (S 24 i) (S 25 i) (S 26 i) (S 27 i)) k).2.1 (z_spd (z_spq (S 24 i) (S 25 i) (S 26 i) (S 27 i)) k).2.2 (nI (k + 1)) (z_mk L Dh S R nx sl) = some (z_spw w (z_spd (z_spq (S 24 i) (S 25 i) (S 26 i) (S 27 i)) 99), z_mk L Dh S R nx sl) := by
  have h1 : z_in (nI i) 8 = true := z_in_nI hi (by decide)
  have h2 : (nI i).toNatClampNeg = i := z_cl (by omega)
  intro j
  induction j with
  | zero =>
    intro k hk
    have e : k = 99 := by omega
    subst e
    rw [E37_13, if_pos (by decide)]
    unfold z_spw
    by_cases c1 : ¬ w = 0
    · rw [if_pos c1, if_pos c1]
      by_cases c2 : ¬ w = 1
      · rw [if_pos c2, if_pos c2]
      · rw [if_neg c2, if_neg c2]
    · rw [if_neg c1, if_neg c1]
  | succ j ih =>
    intro k hk
    have ih := ih (k + 1) (by omega)
    have e99 : ¬ (99 : Int32) < nI (k + 1) := nI_nlt (a := 99) (b := k + 1) (by omega) (by decide)
    have en : nI (k + 1) + 1 = nI (k + 1 + 1) := nI_1 (k + 1)
    rw [E37_13, if_neg e99]
    simp only [o_23, g_23_2, g_23_3, z_bs, M36 hi hb, l_26 h1, l_27 h1, h2, en]
    have st : z_spd (z_spq (S 24 i) (S 25 i) (S 26 i) (S 27 i)) (k + 1) = if z_spq (S 24 i) (S 25 i) (S 26 i) (S 27 i) (k + 1) = true then ((z_spd (z_spq (S 24 i) (S 25 i) (S 26 i) (S 27 i)) k).1 + 1, (if (z_spd (z_spq (S 24 i) (S 25 i) (S 26 i) (S 27 i)) k).1 = 0 then nI (k + 1) else (z_spd (z_spq (S 24 i) (S 25 i) (S 26 i) (S 27 i)) k).2.1), nI (k + 1)) else z_spd (z_spq (S 24 i) (S 25 i) (S 26 i) (S 27 i)) k := rfl
    rw [st] at ih
    generalize z_spd (z_spq (S 24 i) (S 25 i) (S 26 i) (S 27 i)) k = p at ih ⊢
    by_cases c1 : z_land (S 24 i) (S 25 i) (nI (k + 1)) < S 26 i
    · rw [if_neg (fun q => by unfold z_spq at q; rw [Bool.and_eq_true, decide_eq_true_iff, decide_eq_true_iff] at q; exact q.1 c1)] at ih
      rw [if_pos c1]
      exact ih
    · rw [if_neg c1]
      by_cases c2 : S 26 i + S 27 i < z_land (S 24 i) (S 25 i) (nI (k + 1))
      · rw [if_neg (fun q => by unfold z_spq at q; rw [Bool.and_eq_true, decide_eq_true_iff, decide_eq_true_iff] at q; exact q.2 c2)] at ih
        rw [if_pos c2]
        exact ih
      · rw [if_pos (by unfold z_spq; rw [Bool.and_eq_true, decide_eq_true_iff, decide_eq_true_iff]; exact ⟨c1, c2⟩)] at ih
        rw [if_neg c2]
        by_cases c3 : p.1 = 0
        · rw [if_neg (fun q => q c3)]
          simp only [c3, z_iT] at ih ⊢
          exact ih
        · rw [if_pos c3]
          simp only [c3, z_iF] at ih
          exact ih
theorem M186_59 {i : Nat} (hi : i < 8) (hb : 1 ≤ (S 72 (i * 4 + 1)).toInt) (w : Int32) : ∀ (j k : Nat), k + j = 99 → L186_59 (some 52) (nI i) w (z_spd (z_spq (S 72 (i * 4 + 0)) (S 72 (i * 4 + 1)) (S 72 (i * 4 + 2)) (S 72 (i * 4 + 3))) k).1 (z_spd (z_spq (S 72 (i * 4 + 0)) (S 72 (i * 4 + 1)) (S 72 (i * 4 + 2)) (S 72 (i * 4 + 3))) k).2.1 (z_spd (z_spq (S 72 (i * 4 + 0)) (S 72 (i * 4 + 1)) (S 72 (i * 4 + 2)) (S 72 (i * 4 + 3))) k).2.2 (S 72 (i * 4 + 2)) (nI (k + 1)) (z_mk L Dh S R nx sl) = some (z_spw w (z_spd (z_spq (S 72 (i * 4 + 0)) (S 72 (i * 4 + 1)) (S 72 (i * 4 + 2)) (S 72 (i * 4 + 3))) 99), z_mk L Dh S R nx sl) := by
  intro j
  induction j with
  | zero =>
    intro k hk
    have e : k = 99 := by omega
    subst e
    rw [E186_59, if_pos (by decide)]
    unfold z_spw
    by_cases c1 : ¬ w = 0
    · rw [if_pos c1, if_pos c1]
      by_cases c2 : ¬ w = 1
      · rw [if_pos c2, if_pos c2]
      · rw [if_neg c2, if_neg c2]
    · rw [if_neg c1, if_neg c1]
  | succ j ih =>
    intro k hk
    have ih := ih (k + 1) (by omega)
    have e99 : ¬ (100 : Int32) ≤ nI (k + 1) := nI_ge (a := k + 1) (b := 100) (by omega) (by decide)
    have en : nI (k + 1) + 1 = nI (k + 1 + 1) := nI_1 (k + 1)
    rw [E186_59, if_neg e99]
    simp only [o_52, g_52_27, z_bs, M184 hi hb, z_ld72d hi, en]
    have st : z_spd (z_spq (S 72 (i * 4 + 0)) (S 72 (i * 4 + 1)) (S 72 (i * 4 + 2)) (S 72 (i * 4 + 3))) (k + 1) = if z_spq (S 72 (i * 4 + 0)) (S 72 (i * 4 + 1)) (S 72 (i * 4 + 2)) (S 72 (i * 4 + 3)) (k + 1) = true then ((z_spd (z_spq (S 72 (i * 4 + 0)) (S 72 (i * 4 + 1)) (S 72 (i * 4 + 2)) (S 72 (i * 4 + 3))) k).1 + 1, (if (z_spd (z_spq (S 72 (i * 4 + 0)) (S 72 (i * 4 + 1)) (S 72 (i * 4 + 2)) (S 72 (i * 4 + 3))) k).1 = 0 then nI (k + 1) else (z_spd (z_spq (S 72 (i * 4 + 0)) (S 72 (i * 4 + 1)) (S 72 (i * 4 + 2)) (S 72 (i * 4 + 3))) k).2.1), nI (k + 1)) else z_spd (z_spq (S 72 (i * 4 + 0)) (S 72 (i * 4 + 1)) (S 72 (i * 4 + 2)) (S 72 (i * 4 + 3))) k := rfl
    obtain ⟨c, k1, k2, k3⟩ := z_spd_inv (z_spq (S 72 (i * 4 + 0)) (S 72 (i * 4 + 1)) (S 72 (i * 4 + 2)) (S 72 (i * 4 + 3))) k (by omega)
    rw [st] at ih
    generalize z_spd (z_spq (S 72 (i * 4 + 0)) (S 72 (i * 4 + 1)) (S 72 (i * 4 + 2)) (S 72 (i * 4 + 3))) k = p at ih k2 k3 ⊢
    by_cases c1 : z_land (S 72 (i * 4 + 0)) (S 72 (i * 4 + 1)) (nI (k + 1)) < S 72 (i * 4 + 2)
    · rw [if_neg (fun q => by unfold z_spq at q; rw [Bool.and_eq_true, decide_eq_true_iff, decide_eq_true_iff] at q; exact q.1 c1)] at ih
      rw [if_pos c1]
      exact ih
    · rw [if_neg c1]
      by_cases c2 : S 72 (i * 4 + 2) + S 72 (i * 4 + 3) < z_land (S 72 (i * 4 + 0)) (S 72 (i * 4 + 1)) (nI (k + 1))
      · rw [if_neg (fun q => by unfold z_spq at q; rw [Bool.and_eq_true, decide_eq_true_iff, decide_eq_true_iff] at q; exact q.2 c2)] at ih
        rw [if_neg (Int32.not_le.mpr c2)]
        exact ih
      · rw [if_pos (by unfold z_spq; rw [Bool.and_eq_true, decide_eq_true_iff, decide_eq_true_iff]; exact ⟨c1, c2⟩)] at ih
        rw [if_pos (Int32.not_lt.mp c2)]
        rcases k3 with ⟨rfl, k4⟩ | ⟨k3, k4⟩
        · have c3 : p.1 = 0 := k2
          rw [if_neg (by rw [k4]; decide)]
          simp only [c3, z_iT] at ih ⊢
          exact ih
        · have c3 : ¬ p.1 = 0 := fun q => by
            rw [k2, z_eq, z_nI (by omega)] at q
            have e0 : (0 : Int32).toInt = 0 := rfl
            omega
          rw [if_pos (z_le.mpr (by have e0 : (0 : Int32).toInt = 0 := rfl; omega))]
          simp only [c3, z_iF] at ih
          exact ih
theorem M104 {n : Nat} (hn : n ≤ 8) (hS : S 23 4 = nI n) (hb : ∀ i, i < n → 1 ≤ (S 25 i).toInt) {i w : Int32} : z_cI 4 104 [.inr (.inr (some 6)), .inl i, .inl w] (z_mk L Dh S R nx sl) = if i < 0 ∨ nI n ≤ i then some (-1, z_mk L Dh (z_no 7 S (-1)) R nx sl) else if w < 0 ∨ 2 < w then some (-2, z_mk L Dh (z_no 7 S (-2)) R nx sl) else some (z_spw w (z_spd (z_spq (S 24 i.toNatClampNeg) (S 25 i.toNatClampNeg) (S 26 i.toNatClampNeg) (S 27 i.toNatClampNeg)) 99), z_mk L Dh S R nx sl) := by
  rw [E104]
  simp only [z_bs, M122 z_code1, M122 z_code2, o_6, o_23, g_6_4, g_23_4, hS]
  by_cases c1 : i < 0
  · simp only [c1, Int32.not_le.mpr c1, true_or, or_true, or_self, false_or, or_false, not_true, not_false_eq_true, Classical.not_not, z_10, z_iT, z_iF]
  · skip
    by_cases c2 : nI n ≤ i
    · simp only [c1, Int32.not_lt.mp c1, c2, Int32.not_lt.mpr c2, true_or, or_true, or_self, false_or, or_false, not_true, not_false_eq_true, Classical.not_not, z_10, z_iT, z_iF]
    · skip
      by_cases c3 : w < 0
      · simp only [c1, Int32.not_lt.mp c1, c2, Int32.not_le.mp c2, c3, Int32.not_le.mpr c3, true_or, or_true, or_self, false_or, or_false, not_true, not_false_eq_true, Classical.not_not, z_10, z_iT, z_iF]
      · skip
        by_cases c4 : 2 < w
        · simp only [c1, Int32.not_lt.mp c1, c2, Int32.not_le.mp c2, c3, Int32.not_lt.mp c3, c4, Int32.not_le.mpr c4, true_or, or_true, or_self, false_or, or_false, not_true, not_false_eq_true, Classical.not_not, z_10, z_iT, z_iF]
        · skip
          simp only [c1, Int32.not_lt.mp c1, c2, Int32.not_le.mp c2, c3, Int32.not_lt.mp c3, c4, Int32.not_lt.mp c4, true_or, or_true, or_self, false_or, or_false, not_true, not_false_eq_true, Classical.not_not, z_10, z_iT, z_iF]
          obtain ⟨j, hj, rfl⟩ := z_plc (by omega) c1 c2
          rw [z_cl (by omega), E37]
          have := M37_13 (L := L) (Dh := Dh) (S := S) (R := R) (nx := nx) (sl := sl) (i := j) (by omega) (hb j hj) w 99 0 rfl
          have this : L37_13 (some 23) (nI j) w 0 (-9) (-9) 1 (z_mk L Dh S R nx sl) = _ := this
          rw [this]
          simp only [z_bs]
theorem M186 {n : Nat} (hn : n ≤ 8) (hS : S 52 26 = nI n) (hb : ∀ i, i < n → 1 ≤ (S 72 (i * 4 + 1)).toInt) {i w : Int32} : z_cI 2 186 [.inr (.inr (some 52)), .inl i, .inl w] (z_mk L Dh S R nx sl) = if i < 0 ∨ nI n ≤ i then some (-1, z_mk L Dh (z_no 86 S (-1)) R nx sl) else if w < 0 ∨ 2 < w then some (-2, z_mk L Dh (z_no 86 S (-2)) R nx sl) else some (z_spw w (z_spd (z_spq (S 72 (i.toNatClampNeg * 4 + 0)) (S 72 (i.toNatClampNeg * 4 + 1)) (S 72 (i.toNatClampNeg * 4 + 2)) (S 72 (i.toNatClampNeg * 4 + 3))) 99), z_mk L Dh S R nx sl) := by
  rw [E186]
  simp only [z_bs, M131 z_code1, M131 z_code2, o_52, g_52_26, g_52_27, hS]
  by_cases c1 : i < 0
  · simp only [c1, Int32.not_le.mpr c1, true_or, or_true, or_self, false_or, or_false, not_true, not_false_eq_true, Classical.not_not, z_10, z_iT, z_iF]
  · skip
    by_cases c2 : nI n ≤ i
    · simp only [c1, Int32.not_lt.mp c1, c2, Int32.not_lt.mpr c2, true_or, or_true, or_self, false_or, or_false, not_true, not_false_eq_true, Classical.not_not, z_10, z_iT, z_iF]
    · skip
      by_cases c3 : w < 0
      · simp only [c1, Int32.not_lt.mp c1, c2, Int32.not_le.mp c2, c3, Int32.not_le.mpr c3, true_or, or_true, or_self, false_or, or_false, not_true, not_false_eq_true, Classical.not_not, z_10, z_iT, z_iF]
      · skip
        by_cases c4 : 2 < w
        · simp only [c1, Int32.not_lt.mp c1, c2, Int32.not_le.mp c2, c3, Int32.not_lt.mp c3, c4, Int32.not_le.mpr c4, true_or, or_true, or_self, false_or, or_false, not_true, not_false_eq_true, Classical.not_not, z_10, z_iT, z_iF]
        · skip
          simp only [c1, Int32.not_lt.mp c1, c2, Int32.not_le.mp c2, c3, Int32.not_lt.mp c3, c4, Int32.not_lt.mp c4, true_or, or_true, or_self, false_or, or_false, not_true, not_false_eq_true, Classical.not_not, z_10, z_iT, z_iF]
          obtain ⟨j, hj, rfl⟩ := z_plc (by omega) c1 c2
          rw [z_cl (by omega), z_ld72c (by omega)]
          simp only [z_bs]
          have := M186_59 (L := L) (Dh := Dh) (S := S) (R := R) (nx := nx) (sl := sl) (i := j) (by omega) (hb j hj) w 99 0 rfl
          exact this
theorem S_speeds (h_I_ref : I_ref S) (h_I_rmp : I_rmp S) (i w : Int32) : z_R2 (fun h => z_cI 4 104 [.inr (.inr (some 6)), .inl i, .inl w] h) (fun h => z_cI 2 186 [.inr (.inr (some 52)), .inl i, .inl w] h) L Dh S R nx sl A_rmp K_rmp (fun S => I_ref S ∧ I_rmp S) := by
  obtain ⟨n, h1, h2, h3, h4⟩ := id h_I_rmp
  have hb : ∀ i, i < n → 1 ≤ (S 25 i).toInt := fun i hi => (h4 i hi).2.2.2.2
  have hb2 : ∀ i, i < n → 1 ≤ (S 72 (i * 4 + 1)).toInt := fun i hi => by rw [← (h4 i hi).2.1]; exact hb i hi
  by_cases d1 : i < 0 ∨ nI n ≤ i
  · refine z_R2_no z_code1 rfl rfl h_I_ref ?_ ?_ ⟨z_no_ref h_I_ref z_code1, z_no_rmp h_I_rmp⟩
    · show z_cI 4 104 _ _ = _
      rw [M104 h1 h2 hb, if_pos d1]
    · show z_cI 2 186 _ _ = _
      rw [M186 (S := z_no 7 S (-1)) h1 h3 hb2, if_pos d1]
  · skip
    by_cases d2 : w < 0 ∨ 2 < w
    · refine z_R2_no z_code2 rfl rfl h_I_ref ?_ ?_ ⟨z_no_ref h_I_ref z_code2, z_no_rmp h_I_rmp⟩
      · show z_cI 4 104 _ _ = _
        rw [M104 h1 h2 hb, if_neg d1, if_pos d2]
      · show z_cI 2 186 _ _ = _
        rw [M186 (S := z_no 7 S (-2)) h1 h3 hb2, if_neg d1, if_pos d2]
    · skip
      obtain ⟨j, hj, rfl⟩ := z_plc (by omega) (fun q => d1 (Or.inl q)) (fun q => d1 (Or.inr q))
      obtain ⟨k1, k2, k3, k4, k5⟩ := h4 j hj
      refine z_R2_q (r := z_spw w (z_spd (z_spq (S 24 j) (S 25 j) (S 26 j) (S 27 j)) 99)) ?_ ?_ ⟨h_I_ref, h_I_rmp⟩
      · show z_cI 4 104 _ _ = _
        rw [M104 h1 h2 hb, if_neg d1, if_neg d2, z_cl (by omega)]
      · show z_cI 2 186 _ _ = _
        rw [M186 h1 h3 hb2, if_neg d1, if_neg d2, z_cl (by omega), k1, k2, k3, k4]
end ZRY
