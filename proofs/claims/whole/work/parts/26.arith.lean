/-! numbers of 32 bits as whole numbers -/
theorem z_le {a b : Int32} : a ≤ b ↔ a.toInt ≤ b.toInt := Int32.le_iff_toInt_le
theorem z_lt {a b : Int32} : a < b ↔ a.toInt < b.toInt := Int32.lt_iff_toInt_lt
theorem z_eq {a b : Int32} : a = b ↔ a.toInt = b.toInt := Int32.toInt_inj.symm
theorem z_lo (a : Int32) : -2147483648 ≤ a.toInt := Int32.le_toInt a
theorem z_hi (a : Int32) : a.toInt < 2147483648 := Int32.toInt_lt a
theorem z_add {a b : Int32} (h1 : -2147483648 ≤ a.toInt + b.toInt) (h2 : a.toInt + b.toInt < 2147483648) : (a + b).toInt = a.toInt + b.toInt := by
  rw [Int32.toInt_add]
  exact Int.bmod_eq_of_le (by omega) (by omega)
theorem z_sub {a b : Int32} (h1 : -2147483648 ≤ a.toInt - b.toInt) (h2 : a.toInt - b.toInt < 2147483648) : (a - b).toInt = a.toInt - b.toInt := by
  rw [Int32.toInt_sub]
  exact Int.bmod_eq_of_le (by omega) (by omega)
theorem z_mul {a b : Int32} (h1 : -2147483648 ≤ a.toInt * b.toInt) (h2 : a.toInt * b.toInt < 2147483648) : (a * b).toInt = a.toInt * b.toInt := by
  rw [Int32.toInt_mul]
  exact Int.bmod_eq_of_le (by omega) (by omega)
theorem z_neg {a : Int32} (h : a.toInt ≠ -2147483648) : (-a).toInt = -a.toInt := by
  rw [Int32.toInt_neg]
  have := z_lo a
  have := z_hi a
  exact Int.bmod_eq_of_le (by omega) (by omega)
/-- a number from 0 on is one that counts -/
theorem z_nat {x : Int32} {n : Nat} (h0 : 0 ≤ x.toInt) (hn : x.toInt < n) : ∃ i : Nat, i < n ∧ x = nI i ∧ (i : Int) = x.toInt := by
  have hh := z_hi x
  refine ⟨x.toInt.toNat, by omega, ?_, by omega⟩
  rw [z_eq, nI_toInt (by omega)]
  omega
theorem z_nI {i : Nat} (h : i < 2147483648) : (nI i).toInt = (i : Int) := nI_toInt h
