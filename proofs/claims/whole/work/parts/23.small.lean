/-! the small methods, over the heap as a function of its numbers -/
/-- a refusal is counted -/
def z_no (a : Nat) (S : Nat → Nat → Int32) (c : Int32) : Nat → Nat → Int32 := z_ups S a (-c).toNatClampNeg (S a (-c).toNatClampNeg + 1)
def z_code (c : Int32) : Prop := c = -1 ∨ c = -2 ∨ c = -3 ∨ c = -4 ∨ c = -6
section ZK
variable {L : Nat} {Dh : Nat → z_Sh} {S : Nat → Nat → Int32} {R : Nat → Nat → Option Nat} {nx sl : Nat}
theorem M122 {c : Int32} (hc : z_code c) : z_cI 1 122 [.inr (.inr (some 6)), .inl c] (z_mk L Dh S R nx sl) = some (c, z_mk L Dh (z_no 7 S c) R nx sl) := by
  have h1 : ¬ (0 : Int32) ≤ c := by rcases hc with rfl | rfl | rfl | rfl | rfl <;> decide
  have h2 : ¬ (7 : Int32) ≤ -c := by rcases hc with rfl | rfl | rfl | rfl | rfl <;> decide
  have h3 : z_in (-c) 7 = true := by rcases hc with rfl | rfl | rfl | rfl | rfl <;> decide
  rw [E122]
  simp only [h1, if_false, g_6_0, Option.bind_some, n_7, h2, l_7 h3, s_7 h3]
  rfl
theorem M131 {c : Int32} (hc : z_code c) : z_cI 1 131 [.inr (.inr (some 52)), .inl c] (z_mk L Dh S R nx sl) = some (c, z_mk L Dh (z_no 86 S c) R nx sl) := by
  have h3 : z_in (-c) 7 = true := by rcases hc with rfl | rfl | rfl | rfl | rfl <;> decide
  rw [E131]
  simp only [g_52_52, Option.bind_some, l_86 h3, s_86 h3]
  rfl
theorem z_code1 : z_code (-1) := by unfold z_code; decide
theorem z_code2 : z_code (-2) := by unfold z_code; decide
theorem z_code3 : z_code (-3) := by unfold z_code; decide
theorem z_code4 : z_code (-4) := by unfold z_code; decide
theorem z_code6 : z_code (-6) := by unfold z_code; decide
/-- days -/
theorem M113 {n : Int32} : z_cI 2 113 [.inr (.inr (some 6)), .inl n] (z_mk L Dh S R nx sl) = if 1 ≤ n then (if n ≤ 999 - S 42 0 then some (S 42 0 + n, z_mk L Dh (z_ups S 42 0 (S 42 0 + n)) R nx sl) else some (-6, z_mk L Dh (z_no 7 S (-6)) R nx sl)) else some (-4, z_mk L Dh (z_no 7 S (-4)) R nx sl) := by
  rw [E113]
  simp only [g_6_7, g_42_0, p_42_0, o_6, Option.bind_some, M122 z_code6, M122 z_code4]
  rfl
end ZK
