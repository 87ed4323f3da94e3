def A_tab (a : Nat) : Bool := decide (a ∈ [7, 42, 43, 44, 45, 46, 47, 48, 49, 50, 51, 78, 79, 86])
def K_tab (k : Nat) : Bool := decide (k ∈ [38, 39, 41])
theorem z_fr_of {A K : Nat → Bool} {S S' : Nat → Nat → Int32} (h1 : ∀ a, A a = false → a ≠ 52 → S' a = S a) (h2 : ∀ k, K k = false → S' 52 k = S 52 k) : z_fr A K S S' := ⟨h1, h2⟩
theorem z_fr_id {A K : Nat → Bool} {S : Nat → Nat → Int32} : z_fr A K S S := ⟨fun _ _ _ => rfl, fun _ _ => rfl⟩
/-- a write within what may be written -/
theorem z_fr_ups {A K : Nat → Bool} {S S' : Nat → Nat → Int32} {a i : Nat} {x : Int32} (h : z_fr A K S S') (ha : A a = true) (h52 : a ≠ 52) : z_fr A K S (z_ups S' a i x) := by
  refine ⟨fun b hb hb2 => ?_, fun k hk => ?_⟩
  · have hne : b ≠ a := fun q => by rw [q, ha] at hb; cases hb
    rw [z_ups_ne hne]
    exact h.1 b hb hb2
  · rw [z_ups_ne (fun q => h52 q.symm)]
    exact h.2 k hk
theorem z_fr_upm {A K : Nat → Bool} {S S' : Nat → Nat → Int32} {i : Nat} {x : Int32} (h : z_fr A K S S') (hi : K i = true) : z_fr A K S (z_ups S' 52 i x) := by
  refine ⟨fun b hb hb2 => ?_, fun k hk => ?_⟩
  · rw [z_ups_ne hb2]
    exact h.1 b hb hb2
  · rw [z_upsE, if_pos rfl, if_neg (fun q => by rw [q, hi] at hk; cases hk)]
    exact h.2 k hk
section ZRT
variable {L : Nat} {Dh : Nat → z_Sh} {S : Nat → Nat → Int32} {R : Nat → Nat → Option Nat} {nx sl : Nat}
theorem z_no_tab {c : Int32} (h : I_tab S) : I_tab (z_no 86 (z_no 7 S c) c) := I_tab_fr h ⟨rfl, rfl, rfl, rfl, rfl, rfl, rfl, rfl, rfl, rfl, rfl, rfl, rfl, rfl, rfl⟩
theorem M125 {g : Int32} {h : z_H} : z_cI 1 125 [.inl g] h = some (if g < 0 then 0 else if 4 ≤ g then 0 else 1, h) := by
  rw [E125]
  by_cases c1 : g < 0
  · rw [if_pos c1, if_pos c1]
  · rw [if_neg c1, if_neg c1]
    by_cases c2 : (4 : Int32) ≤ g
    · rw [if_pos c2, if_pos c2]
    · rw [if_neg c2, if_neg c2]
theorem M202 {n : Int32} : z_cI 2 202 [.inr (.inr (some 52)), .inl n] (z_mk L Dh S R nx sl) = if 1 ≤ n then (if n ≤ 999 - S 52 38 then some (S 52 38 + n, z_mk L Dh (z_ups S 52 38 (S 52 38 + n)) R nx sl) else some (-6, z_mk L Dh (z_no 86 S (-6)) R nx sl)) else some (-4, z_mk L Dh (z_no 86 S (-4)) R nx sl) := by
  rw [E202]
  simp only [g_52_38, p_52_38, o_52, z_bs, M131 z_code6, M131 z_code4, z_upsE, Nat.reduceEqDiff, z_iT]
theorem S_days (hr : I_ref S) (ht : I_tab S) (n : Int32) : z_R2 (fun h => z_cI 2 113 [.inr (.inr (some 6)), .inl n] h) (fun h => z_cI 2 202 [.inr (.inr (some 52)), .inl n] h) L Dh S R nx sl A_tab K_tab (fun S => I_ref S ∧ I_tab S) := by
  have hd : S 52 38 = S 42 0 := by obtain ⟨n, k, -, -, -, -, -, -, h, -⟩ := ht; exact h
  by_cases c1 : 1 ≤ n
  · by_cases c2 : n ≤ 999 - S 42 0
    · refine ⟨S 42 0 + n, z_ups S 42 0 (S 42 0 + n), z_ups (z_ups S 42 0 (S 42 0 + n)) 52 38 (S 42 0 + n), ?_, ?_, z_fr_upm (z_fr_ups z_fr_id rfl (by decide)) rfl, I_ref_fr hr ⟨rfl, rfl⟩, ?_⟩
      · show z_cI 2 113 _ _ = _
        rw [M113, if_pos c1, if_pos c2]
      · show z_cI 2 202 _ _ = _
        have e : z_ups S 42 0 (S 42 0 + n) 52 38 = S 42 0 := hd
        rw [M202, e, if_pos c1, if_pos c2]
      · obtain ⟨a, b, h1, h2, h3, h4, h5, h6, h7, h8, h9, h10, h11⟩ := ht
        have e1 : (1 : Int32).toInt = 1 := rfl
        have e9 : (999 : Int32).toInt = 999 := rfl
        have d1 := z_le.mp c1
        have d2 := z_le.mp c2
        rw [z_sub (by omega) (by omega)] at d2
        have d3 : (S 42 0 + n).toInt = (S 42 0).toInt + n.toInt := z_add (by omega) (by omega)
        refine ⟨a, b, h1, h2, h3, h4, h5, h6, rfl, ?_, ?_, ?_, h11⟩
        · show 0 ≤ (S 42 0 + n).toInt
          omega
        · show (S 42 0 + n).toInt ≤ 999
          omega
        · intro i hi
          obtain ⟨g1, g2, g3, g4, g5, g6, g7, g8⟩ := h10 i hi
          refine ⟨g1, g2, g3, g4, g5, g6, g7, ?_⟩
          show (S 46 i).toInt ≤ (S 42 0 + n).toInt
          omega
    · refine z_R2_no z_code6 rfl rfl hr ?_ ?_ ⟨z_no_ref hr z_code6, z_no_tab ht⟩
      · show z_cI 2 113 _ _ = _
        rw [M113, if_pos c1, if_neg c2]
      · show z_cI 2 202 _ _ = _
        have e : z_no 7 S (-6) 52 38 = S 42 0 := hd
        rw [M202, e, if_pos c1, if_neg c2]
  · refine z_R2_no z_code4 rfl rfl hr ?_ ?_ ⟨z_no_ref hr z_code4, z_no_tab ht⟩
    · show z_cI 2 113 _ _ = _
      rw [M113, if_neg c1]
    · show z_cI 2 202 _ _ = _
      rw [M202, if_neg c1]
/-- grip -/
theorem M116 {n : Nat} (hn : n ≤ 60) (hS : S 42 6 = nI n) (g k : Int32) : z_cI 3 116 [.inr (.inr (some 6)), .inl g, .inl k] (z_mk L Dh S R nx sl) = if g < 0 ∨ 4 ≤ g then some (-1, z_mk L Dh (z_no 7 S (-1)) R nx sl) else if k < 0 then some (-4, z_mk L Dh (z_no 7 S (-4)) R nx sl) else if 999 < k then some (-6, z_mk L Dh (z_no 7 S (-6)) R nx sl) else some (z_cG S n g k, z_mk L Dh S R nx sl) := by
  rw [E116]
  simp only [M125, z_bs, o_6, o_42, g_6_7, M122 z_code1, M122 z_code4, M122 z_code6, M63 hn hS]
  by_cases c1 : g < 0
  · simp only [c1, z_iT, true_or, not_true, z_iF]
  · by_cases c2 : (4 : Int32) ≤ g
    · simp only [c1, c2, z_iT, or_true, not_true, z_iF]
    · simp only [c1, c2, z_iF, or_self, show ¬ (1 : Int32) = 0 by decide, not_false_eq_true, z_iT]
      by_cases c3 : k < 0
      · simp only [c3, Int32.not_le.mpr c3, z_iT, z_iF]
      · simp only [c3, Int32.not_lt.mp c3, z_iT, z_iF]
        by_cases c4 : (999 : Int32) < k
        · simp only [c4, Int32.not_le.mpr c4, z_iT, z_iF]
        · simp only [c4, Int32.not_lt.mp c4, z_iT, z_iF]
          rfl
theorem M207 {n : Nat} (hn : n ≤ 60) (hS : S 52 39 = nI n) (hT : ∀ i, i < n → 1 ≤ (S 78 (i * 5 + 2)).toInt ∧ (S 78 (i * 5 + 2)).toInt ≤ 9999) (g k : Int32) : z_cI 2 207 [.inr (.inr (some 52)), .inl g, .inl k] (z_mk L Dh S R nx sl) = if g < 0 ∨ 4 ≤ g then some (-1, z_mk L Dh (z_no 86 S (-1)) R nx sl) else if k < 0 then some (-4, z_mk L Dh (z_no 86 S (-4)) R nx sl) else if 999 < k then some (-6, z_mk L Dh (z_no 86 S (-6)) R nx sl) else some (z_mG S n g k, z_mk L Dh S R nx sl) := by
  rw [E207]
  simp only [z_bs, o_52, M131 z_code1, M131 z_code4, M131 z_code6, M205 hn hS hT]
  by_cases c1 : g < 0
  · simp only [c1, z_iT, true_or]
  · have c34 : g ≤ 3 ↔ ¬ 4 ≤ g := by
      rw [z_le, z_le]
      have e3 : (3 : Int32).toInt = 3 := rfl
      have e4 : (4 : Int32).toInt = 4 := rfl
      omega
    by_cases c2 : (4 : Int32) ≤ g
    · simp only [c1, c34, c2, z_iT, or_true, not_true, z_iF]
    · simp only [c1, c34, c2, z_iF, or_self, not_false_eq_true, z_iT]
      by_cases c3 : k < 0
      · simp only [c3, Int32.not_le.mpr c3, z_iT, z_iF]
      · simp only [c3, Int32.not_lt.mp c3, z_iT, z_iF]
        by_cases c4 : (999 : Int32) < k
        · simp only [c4, Int32.not_le.mpr c4, z_iT, z_iF]
        · simp only [c4, Int32.not_lt.mp c4, z_iT, z_iF]
end ZRT
