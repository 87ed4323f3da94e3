/-- how many of the first n -/
def z_cN (c : Nat → Bool) : Nat → Nat
  | 0 => 0
  | i + 1 => if c i = true then z_cN c i + 1 else z_cN c i
theorem z_cN_add (c : Nat → Bool) (a : Nat) : ∀ b, z_cN c (a + b) = z_cN c a + z_cN (fun j => c (a + j)) b
  | 0 => rfl
  | b + 1 => by
    show (if c (a + b) = true then z_cN c (a + b) + 1 else z_cN c (a + b)) = z_cN c a + (if c (a + b) = true then z_cN (fun j => c (a + j)) b + 1 else z_cN (fun j => c (a + j)) b)
    rw [z_cN_add c a b]
    by_cases h : c (a + b) = true
    · rw [if_pos h, if_pos h]; omega
    · rw [if_neg h, if_neg h]
theorem z_cN_congr {c d : Nat → Bool} : ∀ n, (∀ i, i < n → c i = d i) → z_cN c n = z_cN d n
  | 0, _ => rfl
  | n + 1, h => by
    show (if c n = true then z_cN c n + 1 else z_cN c n) = (if d n = true then z_cN d n + 1 else z_cN d n)
    rw [h n (by omega), z_cN_congr n (fun i hi => h i (by omega))]
theorem z_nI_and (a b : Nat) : nI a &&& nI b = nI (a &&& b) := by
  apply Int32.toBitVec_inj.mp
  rw [Int32.toBitVec_and]
  exact BitVec.ofNat_and.symm
theorem z_nI_shr {v k : Nat} (hv : v < 4294967296) (hk : k < 32) (e : ((nI k).toUInt32 &&& Int32.toUInt32 31).toNat = k) : ((nI v).toUInt32 >>> ((nI k).toUInt32 &&& Int32.toUInt32 31)).toInt32 = nI (v / 2 ^ k) := by
  apply Int32.toBitVec_inj.mp
  apply BitVec.eq_of_toNat_eq
  show ((nI v).toUInt32 >>> ((nI k).toUInt32 &&& Int32.toUInt32 31)).toNat = (BitVec.ofNat 32 (v / 2 ^ k)).toNat
  rw [UInt32.toNat_shiftRight, e, Nat.mod_eq_of_lt hk, Nat.shiftRight_eq_div_pow, BitVec.toNat_ofNat]
  have e2 : (nI v).toUInt32.toNat = v := by
    show (BitVec.ofNat 32 v).toNat = v
    rw [BitVec.toNat_ofNat]
    exact Nat.mod_eq_of_lt hv
  rw [e2, Nat.mod_eq_of_lt (Nat.lt_of_le_of_lt (Nat.div_le_self _ _) hv)]
theorem z_nI_sub {a b : Nat} (h : b ≤ a) : nI a - nI b = nI (a - b) := by
  have : nI (a - b) + nI b = nI a := by rw [nI_add, Nat.sub_add_cancel h]
  rw [← this, Int32.add_sub_cancel]
theorem z_and3 (a b c m n p : Nat) (ha : a < 256) (hb : b < 256) (hm : m < 256) (hn : n < 256) : (a + 256 * b + 65536 * c) &&& (m + 256 * n + 65536 * p) = (a &&& m) + 256 * (b &&& n) + 65536 * (c &&& p) := by
  have e1 := Nat.and_mod_two_pow (a := a + 256 * b + 65536 * c) (b := m + 256 * n + 65536 * p) (n := 8)
  have e2 := Nat.and_div_two_pow (a := a + 256 * b + 65536 * c) (b := m + 256 * n + 65536 * p) (n := 8)
  have e3 := Nat.and_mod_two_pow (a := b + 256 * c) (b := n + 256 * p) (n := 8)
  have e4 := Nat.and_div_two_pow (a := b + 256 * c) (b := n + 256 * p) (n := 8)
  rw [show (2 : Nat) ^ 8 = 256 from rfl] at e1 e2 e3 e4
  rw [show (a + 256 * b + 65536 * c) % 256 = a by omega, show (m + 256 * n + 65536 * p) % 256 = m by omega] at e1
  rw [show (a + 256 * b + 65536 * c) / 256 = b + 256 * c by omega, show (m + 256 * n + 65536 * p) / 256 = n + 256 * p by omega] at e2
  rw [show (b + 256 * c) % 256 = b by omega, show (n + 256 * p) % 256 = n by omega] at e3
  rw [show (b + 256 * c) / 256 = c by omega, show (n + 256 * p) / 256 = p by omega] at e4
  generalize (a + 256 * b + 65536 * c) &&& (m + 256 * n + 65536 * p) = x at e1 e2 ⊢
  generalize (b + 256 * c) &&& (n + 256 * p) = y at e2 e3 e4
  omega
def z_g1 (a : Nat) : Nat := a - (a / 2 &&& 85)
def z_g2 (a : Nat) : Nat := (a &&& 51) + (a / 4 &&& 51)
def z_g3 (a : Nat) : Nat := (a + a / 16) % 16
theorem z_g1a : ∀ a, a < 256 → (a / 2 &&& 85) ≤ a ∧ ((a / 2 + 128) &&& 85) = (a / 2 &&& 85) ∧ z_g1 a < 256 := by decide +kernel
theorem z_g2a : ∀ a, a < 256 → ∀ b, b < 4 → ((a / 4 + 64 * b) &&& 51) = (a / 4 &&& 51) ∧ z_g2 a < 256 := by decide +kernel
theorem z_g3c : ∀ a, a < 256 → z_g2 (z_g1 a) % 16 ≤ 4 := by decide +kernel
theorem z_g3a : ∀ a, a < 256 → z_g2 (z_g1 a) ≤ 68 ∧ z_g3 (z_g2 (z_g1 a)) ≤ 8 ∧ z_g3 (z_g2 (z_g1 a)) = z_cN (fun j => a.testBit j) 8 := by decide +kernel
theorem z_g3b : ∀ a, a ≤ 68 → ∀ b, b < 16 → ((a + a / 16 + 16 * b) &&& 15) = z_g3 a := by decide +kernel
def z_s1 (v : Nat) : Nat := v - (v / 2 &&& 1431655765)
def z_s2 (v : Nat) : Nat := (v &&& 858993459) + (v / 4 &&& 858993459)
def z_s3 (v : Nat) : Nat := (v + v / 16) &&& 252645135
theorem z_s1e (a b c : Nat) (ha : a < 256) (hb : b < 256) (hc : c < 256) : z_s1 (a + 256 * b + 65536 * c) = z_g1 a + 256 * z_g1 b + 65536 * z_g1 c ∧ (a + 256 * b + 65536 * c) / 2 &&& 1431655765 ≤ a + 256 * b + 65536 * c := by
  have e : ((a + 256 * b + 65536 * c) / 2) &&& 1431655765 = (a / 2 &&& 85) + 256 * (b / 2 &&& 85) + 65536 * (c / 2 &&& 85) := by
    rw [show (a + 256 * b + 65536 * c) / 2 = (a / 2 + 128 * (b % 2)) + 256 * (b / 2 + 128 * (c % 2)) + 65536 * (c / 2) by omega, show 1431655765 = 85 + 256 * 85 + 65536 * 21845 from rfl, z_and3 _ _ _ _ _ _ (by omega) (by omega) (by omega) (by omega)]
    have q1 : (a / 2 + 128 * (b % 2)) &&& 85 = (a / 2 &&& 85) := by
      rcases Nat.mod_two_eq_zero_or_one b with h | h <;> rw [h]
      · rfl
      · exact (z_g1a a ha).2.1
    have q2 : (b / 2 + 128 * (c % 2)) &&& 85 = (b / 2 &&& 85) := by
      rcases Nat.mod_two_eq_zero_or_one c with h | h <;> rw [h]
      · rfl
      · exact (z_g1a b hb).2.1
    have q3 : c / 2 &&& 21845 = (c / 2 &&& 85) := by
      have := z_and3 (c / 2) 0 0 85 85 0 (by omega) (by omega) (by omega) (by omega)
      simp only [Nat.mul_zero, Nat.add_zero, Nat.zero_and] at this
      exact this
    rw [q1, q2, q3]
  have h1 := z_g1a a ha
  have h2 := z_g1a b hb
  have h3 := z_g1a c hc
  refine ⟨?_, by rw [e]; omega⟩
  unfold z_s1 z_g1
  rw [e]
  omega
theorem z_s2e (a b c : Nat) (ha : a < 256) (hb : b < 256) (hc : c < 256) : z_s2 (a + 256 * b + 65536 * c) = z_g2 a + 256 * z_g2 b + 65536 * z_g2 c := by
  unfold z_s2 z_g2
  rw [show 858993459 = 51 + 256 * 51 + 65536 * 13107 from rfl, z_and3 _ _ _ _ _ _ ha hb (by omega) (by omega), show (a + 256 * b + 65536 * c) / 4 = (a / 4 + 64 * (b % 4)) + 256 * (b / 4 + 64 * (c % 4)) + 65536 * (c / 4) by omega, z_and3 _ _ _ _ _ _ (by omega) (by omega) (by omega) (by omega), (z_g2a a ha (b % 4) (by omega)).1, (z_g2a b hb (c % 4) (by omega)).1]
  have q3 : ∀ c, c < 256 → c &&& 13107 = (c &&& 51) := fun c hc => by
    have := z_and3 c 0 0 51 51 0 hc (by omega) (by omega) (by omega)
    simp only [Nat.mul_zero, Nat.add_zero, Nat.zero_and] at this
    exact this
  rw [q3 c hc, q3 (c / 4) (by omega)]
  omega
theorem z_s3e (a b c : Nat) (ha : a ≤ 68) (hb : b ≤ 68) (hc : c ≤ 68) (hb4 : b % 16 ≤ 4) (hc4 : c % 16 ≤ 4) : z_s3 (a + 256 * b + 65536 * c) = z_g3 a + 256 * z_g3 b + 65536 * z_g3 c := by
  unfold z_s3
  rw [show (a + 256 * b + 65536 * c) + (a + 256 * b + 65536 * c) / 16 = (a + a / 16 + 16 * (b % 16)) + 256 * (b + b / 16 + 16 * (c % 16)) + 65536 * (c + c / 16) by omega, show 252645135 = 15 + 256 * 15 + 65536 * 3855 from rfl, z_and3 _ _ _ _ _ _ (by omega) (by omega) (by omega) (by omega), z_g3b a ha (b % 16) (by omega), z_g3b b hb (c % 16) (by omega)]
  have q3 : c + c / 16 &&& 3855 = z_g3 c := by
    have := z_and3 (c + c / 16) 0 0 15 15 0 (by omega) (by omega) (by omega) (by omega)
    simp only [Nat.mul_zero, Nat.add_zero, Nat.zero_and] at this
    have e := z_g3b c hc 0 (by omega)
    simp only [Nat.mul_zero, Nat.add_zero] at e
    rw [← e]
    exact this
  rw [q3]
/-- the bits of a row, reckoned as the library does it -/
def z_bcn (x : Int32) : Int32 :=
  let a := x - ((x.toUInt32 >>> ((1 : Int32).toUInt32 &&& Int32.toUInt32 31)).toInt32 &&& (1431655765 : Int32))
  let b := (a &&& (858993459 : Int32)) + ((a.toUInt32 >>> ((2 : Int32).toUInt32 &&& Int32.toUInt32 31)).toInt32 &&& (858993459 : Int32))
  let c := (b + (b.toUInt32 >>> ((4 : Int32).toUInt32 &&& Int32.toUInt32 31)).toInt32) &&& (252645135 : Int32)
  let d := c + (c.toUInt32 >>> ((8 : Int32).toUInt32 &&& Int32.toUInt32 31)).toInt32
  (d + (d.toUInt32 >>> ((16 : Int32).toUInt32 &&& Int32.toUInt32 31)).toInt32) &&& (63 : Int32)
theorem z_bt_nI {v j : Nat} (hv : v < 4294967296) : z_bt (nI v) j = v.testBit j := by
  show (BitVec.ofNat 32 v).getLsbD j = _
  rw [BitVec.getLsbD_ofNat]
  by_cases h : j < 32
  · simp only [h, decide_true, Bool.true_and]
  · have : v.testBit j = false := Nat.testBit_lt_two_pow (Nat.lt_of_lt_of_le hv (Nat.le_trans (by decide) (Nat.pow_le_pow_right (by decide) (show 32 ≤ j by omega))))
    rw [this]
    simp only [h, decide_false, Bool.false_and]
theorem z_bcn_nI {v : Nat} (hv : v < 1048576) : z_bcn (nI v) = nI (z_cN (fun j => v.testBit j) 20) := by
  obtain ⟨a, b, c, ha, hb, hc, rfl⟩ : ∃ a b c, a < 256 ∧ b < 256 ∧ c < 16 ∧ v = a + 256 * b + 65536 * c := ⟨v % 256, v / 256 % 256, v / 65536, by omega, by omega, by omega, by omega⟩
  have t1 := z_s1e a b c ha hb (by omega)
  have g1a := z_g1a a ha
  have g1b := z_g1a b hb
  have g1c := z_g1a c (by omega)
  have t2 := z_s2e _ _ _ g1a.2.2 g1b.2.2 g1c.2.2
  have h3a := z_g3a a ha
  have h3b := z_g3a b hb
  have h3c := z_g3a c (by omega)
  have t3 := z_s3e _ _ _ h3a.1 h3b.1 h3c.1 (z_g3c b hb) (z_g3c c (by omega))
  unfold z_bcn
  simp only []
  have k1 := z_nI_shr (v := a + 256 * b + 65536 * c) (k := 1) (by omega) (by decide) (by decide)
  have a1 : nI (a + 256 * b + 65536 * c) - ((((nI (a + 256 * b + 65536 * c)).toUInt32 >>> ((1 : Int32).toUInt32 &&& Int32.toUInt32 31)).toInt32) &&& (1431655765 : Int32)) = nI (z_g1 a + 256 * z_g1 b + 65536 * z_g1 c) := by
    rw [show (1 : Int32) = nI 1 from rfl, k1, show (1431655765 : Int32) = nI 1431655765 from rfl, z_nI_and, z_nI_sub t1.2, ← t1.1]
    rfl
  rw [a1]
  have k2 := z_nI_shr (v := z_g1 a + 256 * z_g1 b + 65536 * z_g1 c) (k := 2) (by omega) (by decide) (by decide)
  have a2 : (nI (z_g1 a + 256 * z_g1 b + 65536 * z_g1 c) &&& (858993459 : Int32)) + (((nI (z_g1 a + 256 * z_g1 b + 65536 * z_g1 c)).toUInt32 >>> ((2 : Int32).toUInt32 &&& Int32.toUInt32 31)).toInt32 &&& (858993459 : Int32)) = nI (z_g2 (z_g1 a) + 256 * z_g2 (z_g1 b) + 65536 * z_g2 (z_g1 c)) := by
    rw [show (2 : Int32) = nI 2 from rfl, k2, show (858993459 : Int32) = nI 858993459 from rfl, z_nI_and, z_nI_and, nI_add, ← t2]
    rfl
  rw [a2]
  have k3 := z_nI_shr (v := z_g2 (z_g1 a) + 256 * z_g2 (z_g1 b) + 65536 * z_g2 (z_g1 c)) (k := 4) (by omega) (by decide) (by decide)
  have a3 : (nI (z_g2 (z_g1 a) + 256 * z_g2 (z_g1 b) + 65536 * z_g2 (z_g1 c)) + ((nI (z_g2 (z_g1 a) + 256 * z_g2 (z_g1 b) + 65536 * z_g2 (z_g1 c))).toUInt32 >>> ((4 : Int32).toUInt32 &&& Int32.toUInt32 31)).toInt32) &&& (252645135 : Int32) = nI (z_g3 (z_g2 (z_g1 a)) + 256 * z_g3 (z_g2 (z_g1 b)) + 65536 * z_g3 (z_g2 (z_g1 c))) := by
    rw [show (4 : Int32) = nI 4 from rfl, k3, nI_add, show (252645135 : Int32) = nI 252645135 from rfl, z_nI_and, ← t3]
    rfl
  rw [a3]
  have l1 := h3a.2.1
  have l2 := h3b.2.1
  have l3 := h3c.2.1
  have m1 := h3a.2.2
  have m2 := h3b.2.2
  have m3 := h3c.2.2
  generalize z_g3 (z_g2 (z_g1 a)) = p at *
  generalize z_g3 (z_g2 (z_g1 b)) = q at *
  generalize z_g3 (z_g2 (z_g1 c)) = r at *
  have k4 := z_nI_shr (v := p + 256 * q + 65536 * r) (k := 8) (by omega) (by decide) (by decide)
  have a4 : nI (p + 256 * q + 65536 * r) + ((nI (p + 256 * q + 65536 * r)).toUInt32 >>> ((8 : Int32).toUInt32 &&& Int32.toUInt32 31)).toInt32 = nI ((p + q) + 256 * (q + r) + 65536 * r) := by
    rw [show (8 : Int32) = nI 8 from rfl, k4, nI_add]
    congr 1
    rw [show (2 : Nat) ^ 8 = 256 from rfl]
    omega
  rw [a4]
  have k5 := z_nI_shr (v := (p + q) + 256 * (q + r) + 65536 * r) (k := 16) (by omega) (by decide) (by decide)
  rw [show (16 : Int32) = nI 16 from rfl, k5, nI_add, show (63 : Int32) = nI 63 from rfl, z_nI_and]
  congr 1
  rw [show (2 : Nat) ^ 16 = 65536 from rfl, show (p + q) + 256 * (q + r) + 65536 * r + ((p + q) + 256 * (q + r) + 65536 * r) / 65536 = p + q + r + 256 * (q + r) + 65536 * r by omega, show 63 = 2 ^ 6 - 1 from rfl, Nat.and_two_pow_sub_one_eq_mod]
  have e1 : z_cN (fun j => (a + 256 * b + 65536 * c).testBit j) 20 = z_cN (fun j => (a + 256 * b + 65536 * c).testBit j) 8 + (z_cN (fun j => (a + 256 * b + 65536 * c).testBit (8 + j)) 8 + z_cN (fun j => (a + 256 * b + 65536 * c).testBit (8 + (8 + j))) 4) := by
    rw [show 20 = 8 + 12 from rfl, z_cN_add, show 12 = 8 + 4 from rfl, z_cN_add]
  have f1 : z_cN (fun j => (a + 256 * b + 65536 * c).testBit j) 8 = p := by
    rw [m1]
    refine z_cN_congr 8 fun i hi => ?_
    have := Nat.testBit_mod_two_pow (a + 256 * b + 65536 * c) 8 i
    rw [show (a + 256 * b + 65536 * c) % 2 ^ 8 = a by rw [show (2 : Nat) ^ 8 = 256 from rfl]; omega] at this
    rw [this]
    simp only [hi, decide_true, Bool.true_and]
  have f2 : z_cN (fun j => (a + 256 * b + 65536 * c).testBit (8 + j)) 8 = q := by
    rw [m2]
    refine z_cN_congr 8 fun i hi => ?_
    have h1 := Nat.testBit_div_two_pow (a + 256 * b + 65536 * c) (n := 8) i
    rw [show (a + 256 * b + 65536 * c) / 2 ^ 8 = b + 256 * c by rw [show (2 : Nat) ^ 8 = 256 from rfl]; omega] at h1
    have := Nat.testBit_mod_two_pow (b + 256 * c) 8 i
    rw [show (b + 256 * c) % 2 ^ 8 = b by rw [show (2 : Nat) ^ 8 = 256 from rfl]; omega] at this
    rw [this, h1, Nat.add_comm i 8]
    simp only [hi, decide_true, Bool.true_and]
  have f3 : z_cN (fun j => (a + 256 * b + 65536 * c).testBit (8 + (8 + j))) 4 = r := by
    rw [m3, show 8 = 4 + 4 from rfl, z_cN_add]
    have z : ∀ c, c < 16 → z_cN (fun j => c.testBit (4 + j)) 4 = 0 := by decide +kernel
    rw [z c hc]
    refine z_cN_congr 4 fun i hi => ?_
    have h1 := Nat.testBit_div_two_pow (a + 256 * b + 65536 * c) (n := 16) i
    rw [show (a + 256 * b + 65536 * c) / 2 ^ 16 = c by rw [show (2 : Nat) ^ 16 = 65536 from rfl]; omega] at h1
    rw [h1]
    congr 1
    omega
  rw [e1, f1, f2, f3]
  omega
/-- x is a row of 20 bits -/
theorem z_row {x : Int32} (h : ∀ j, 20 ≤ j → z_bt x j = false) : ∃ v : Nat, v < 1048576 ∧ x = nI v := by
  refine ⟨x.toBitVec.toNat, ?_, ?_⟩
  · have := Nat.lt_pow_two_of_testBit (n := 20) x.toBitVec.toNat (fun i hi => h i hi)
    exact this
  · apply Int32.toBitVec_inj.mp
    show _ = BitVec.ofNat 32 x.toBitVec.toNat
    rw [BitVec.ofNat_toNat, BitVec.setWidth_eq]
theorem z_bcn_row {x : Int32} (h : ∀ j, 20 ≤ j → z_bt x j = false) : z_bcn x = nI (z_cN (fun j => z_bt x j) 20) := by
  obtain ⟨v, hv, rfl⟩ := z_row h
  rw [z_bcn_nI hv]
  congr 1
  exact z_cN_congr 20 fun j _ => (z_bt_nI (by omega)).symm
section ZSC
variable {L : Nat} {Dh : Nat → z_Sh} {S : Nat → Nat → Int32} {R : Nat → Nat → Option Nat} {nx sl : Nat}
theorem M231 {x : Int32} {h : z_H} : z_cI 1 231 [.inl x] h = some (z_bcn x, h) := by
  rw [E231]
  rfl
theorem z_many_cN (c : Nat → Bool) : ∀ n, z_many c n = nI (z_cN c n)
  | 0 => rfl
  | n + 1 => by
    rw [z_many_s, z_many_cN c n]
    show _ = nI (if c n = true then z_cN c n + 1 else z_cN c n)
    by_cases h : c n = true
    · rw [if_pos h, if_pos h]; exact nI_1 _
    · rw [if_neg h, if_neg h]
theorem M44_4 (hb : ∀ y j, y < 20 → 20 ≤ j → z_bt (S 10 y) j = false) : ∀ (j y : Nat), y + j = 20 → L44_4 (some 8) (nI (z_cN (fun c => z_bt (S 10 (c / 20)) (c % 20)) (20 * y))) (nI y) (z_mk L Dh S R nx sl) = some (nI (z_cN (fun c => z_bt (S 10 (c / 20)) (c % 20)) 400), z_mk L Dh S R nx sl) := by
  intro j
  induction j with
  | zero =>
    intro y hy
    have e : y = 20 := by omega
    subst e
    rw [E44_4, if_pos (by decide)]
  | succ j ih =>
    intro y hy
    have ih := ih (y + 1) (by omega)
    have h1 : z_in (nI y) 20 = true := z_in_nI (by omega) (by decide)
    have h2 : (nI y).toNatClampNeg = y := z_cl (by omega)
    rw [E44_4, if_neg (show ¬ (20 : Int32) ≤ nI (y) from nI_ge (a := y) (b := 20) (by omega) (by decide))]
    simp only [g_8_1, z_bs, l_10 h1, h2, M231, z_bcn_row (fun j hj => hb y j (by omega) hj), nI_add, nI_1]
    have e : z_cN (fun c => z_bt (S 10 (c / 20)) (c % 20)) (20 * (y + 1)) = z_cN (fun c => z_bt (S 10 (c / 20)) (c % 20)) (20 * y) + z_cN (fun j => z_bt (S 10 y) j) 20 := by
      rw [show 20 * (y + 1) = 20 * y + 20 by omega, z_cN_add]
      congr 1
      refine z_cN_congr 20 fun i hi => ?_
      show z_bt (S 10 ((20 * y + i) / 20)) ((20 * y + i) % 20) = _
      rw [show (20 * y + i) / 20 = y by omega, show (20 * y + i) % 20 = i by omega]
    rw [e] at ih
    exact ih
theorem M214_4 : ∀ (j i : Nat), i + j = 400 → L214_4 (some 52) (nI (z_cN (fun c => decide (¬ S 54 c = 0)) i)) (nI i) (z_mk L Dh S R nx sl) = some (nI (z_cN (fun c => decide (¬ S 54 c = 0)) 400), z_mk L Dh S R nx sl) := by
  intro j
  induction j with
  | zero =>
    intro i hi
    have e : i = 400 := by omega
    subst e
    rw [E214_4, if_pos (by decide)]
  | succ j ih =>
    intro i hi
    have ih := ih (i + 1) (by omega)
    have h1 : z_in (nI i) 400 = true := z_in_nI (by omega) (by decide)
    have h2 : (nI i).toNatClampNeg = i := z_cl (by omega)
    have st : z_cN (fun c => decide (¬ S 54 c = 0)) (i + 1) = if decide (¬ S 54 i = 0) = true then z_cN (fun c => decide (¬ S 54 c = 0)) i + 1 else z_cN (fun c => decide (¬ S 54 c = 0)) i := rfl
    rw [E214_4, if_neg (show ¬ (400 : Int32) ≤ nI (i) from nI_ge (a := i) (b := 400) (by omega) (by decide))]
    simp only [g_52_1, z_bs, l_54 h1, h2, nI_1]
    rw [st] at ih
    by_cases c : S 54 i = 0
    · rw [if_pos c]
      rw [if_neg (by rw [decide_eq_true_iff]; exact fun q => q c)] at ih
      exact ih
    · rw [if_neg c]
      rw [if_pos (decide_eq_true c)] at ih
      exact ih
/-- the days' count of runs is one -/
theorem z_runs_eq {n : Nat} (h : ∀ i, i < n → S 43 i = S 78 (i * 5 + 0) ∧ S 44 i = S 78 (i * 5 + 1) ∧ S 45 i = S 78 (i * 5 + 2) ∧ S 46 i = S 78 (i * 5 + 3) ∧ I_bk (S 47 i) (S 78 (i * 5 + 4)) ∧ 1 ≤ (S 45 i).toInt ∧ (S 45 i).toInt ≤ 9999 ∧ (S 46 i).toInt ≤ (S 42 0).toInt) (hd : S 52 38 = S 42 0) (h9 : (S 42 0).toInt ≤ 999) : ∀ m, m ≤ n → z_many (fun i => z_cnt (S 46 i) (S 47 i) (S 42 0)) m = z_many (fun i => decide (¬ S 78 (i * 5 + 4) ≤ S 52 38)) m
  | 0, _ => rfl
  | m + 1, hm => by
    rw [z_many_s, z_many_s, z_runs_eq h hd h9 m (by omega)]
    obtain ⟨-, -, -, -, k, -, -, k8⟩ := h m (by omega)
    rw [z_bk_cnt k h9, hd]
    have e : z_cnt (S 46 m) (S 78 (m * 5 + 4)) (S 42 0) = decide (¬ S 78 (m * 5 + 4) ≤ S 42 0) := by
      unfold z_cnt
      rw [decide_eq_true (z_le.mpr k8), Bool.true_and]
      by_cases c : S 42 0 < S 78 (m * 5 + 4)
      · rw [decide_eq_true c, decide_eq_true (Int32.not_le.mpr c)]
      · rw [decide_eq_false c, decide_eq_false (fun q => q (Int32.not_lt.mp c))]
    rw [e]
theorem z_nI17 {x : Int32} (h : ¬ (x.toInt < 0 ∨ 17 < x.toInt)) : ∃ i : Nat, i < 18 ∧ x = nI i := by
  obtain ⟨i, h1, h2, -⟩ := z_nat (x := x) (n := 18) (by omega) (by omega)
  exact ⟨i, h1, h2⟩
theorem y_c215 {x : Int32} (h : x.toInt < 0 ∨ 17 < x.toInt) : z_cI 2 215 [.inr (.inr (some 52)), .inl x] (z_mk L Dh S R nx sl) = some (-9, z_mk L Dh S R nx sl) := by
  have n : ∀ k : Int32, 0 ≤ k.toInt → k.toInt ≤ 17 → ¬ x = k := fun k h0 h1 q => by subst q; omega
  have e : L215_22 (some 52) x (z_mk L Dh S R nx sl) = some (-9, z_mk L Dh S R nx sl) := by
    rw [E215_22]
    simp only [n 0 (by decide) (by decide), n 1 (by decide) (by decide), n 2 (by decide) (by decide), n 3 (by decide) (by decide), n 4 (by decide) (by decide), n 5 (by decide) (by decide), n 6 (by decide) (by decide), n 7 (by decide) (by decide), n 8 (by decide) (by decide), n 9 (by decide) (by decide), n 10 (by decide) (by decide), n 17 (by decide) (by decide), not_false_eq_true, z_iT]
  rw [E215]
  by_cases c1 : x < 11
  · rw [if_pos c1, e]
  · have c2 : 16 < x := z_lt.mpr (by
      have a1 := z_le.mp (Int32.not_lt.mp c1)
      have a2 : (11 : Int32).toInt = 11 := rfl
      have a3 : (16 : Int32).toInt = 16 := rfl
      omega)
    rw [if_neg c1, if_pos c2, e]
theorem y_c121 {x : Int32} (h : x.toInt < 0 ∨ 17 < x.toInt) : z_cI 3 121 [.inr (.inr (some 6)), .inl x] (z_mk L Dh S R nx sl) = some (-9, z_mk L Dh S R nx sl) := by
  rw [E121, E121_1_d _ _ _ _ h]
  by_cases c1 : x < 11
  · rw [if_pos c1]
  · have c2 : 16 < x := z_lt.mpr (by
      have a1 := z_le.mp (Int32.not_lt.mp c1)
      have a2 : (11 : Int32).toInt = 11 := rfl
      have a3 : (16 : Int32).toInt = 16 := rfl
      omega)
    rw [if_neg c1, if_pos c2]
theorem z_i7 : ∀ k, k < 7 → z_in (nI k) 7 = true := by decide +kernel

theorem S_count (h_I_ref : I_ref S) (h_I_tab : I_tab S) (h_I_rmp : I_rmp S) (h_I_sht : I_sht S) (h_I_row : I_row S) (h_I_tap : I_tap S) (h_I_tel : I_tel S) (h_I_saf : I_saf S) (hm : S 8 3 = S 52 2) (hc : S 16 1 = S 52 12) (ht : S 18 2 = S 52 15) (x : Int32) : ∃ r, z_cI 3 121 [.inr (.inr (some 6)), .inl x] (z_mk L Dh S R nx sl) = some (r, z_mk L Dh S R nx sl) ∧ z_cI 2 215 [.inr (.inr (some 52)), .inl x] (z_mk L Dh S R nx sl) = some (r, z_mk L Dh S R nx sl) := by
  by_cases hx : x.toInt < 0 ∨ 17 < x.toInt
  · exact ⟨-9, y_c121 hx, y_c215 hx⟩
  obtain ⟨i, hi, rfl⟩ := z_nI17 hx
  obtain ⟨nr, r1, r2, r3, -⟩ := id h_I_rmp
  obtain ⟨ns, s1, s2, s3, -⟩ := id h_I_sht
  obtain ⟨nw, w1, w2, w3, -⟩ := id h_I_row
  obtain ⟨nt, t1, t2, t3, -⟩ := id h_I_tap
  obtain ⟨n, k, a1, a2, a3, a4, a5, a6, a7, a8, a9, a10, -⟩ := id h_I_tab
  rcases (show i = 0 ∨ i = 1 ∨ i = 2 ∨ i = 3 ∨ i = 4 ∨ i = 5 ∨ i = 6 ∨ i = 7 ∨ i = 8 ∨ i = 9 ∨ i = 10 ∨ i = 11 ∨ i = 12 ∨ i = 13 ∨ i = 14 ∨ i = 15 ∨ i = 16 ∨ i = 17 by omega) with rfl | rfl | rfl | rfl | rfl | rfl | rfl | rfl | rfl | rfl | rfl | rfl | rfl | rfl | rfl | rfl | rfl | rfl
  · refine ⟨S 52 2, ?_, ?_⟩
    · rw [E121, E121_1_0 _ _ (nI 0) _ rfl]
      simp only [g_6_1, g_8_3, hm, z_bs]
    · rw [E215, if_pos (by decide), E215_22]
      simp only [show (¬ (nI 0 = 0)) = False from eq_false (fun q => q rfl), z_iT, z_iF, g_52_2, z_bs]
  · refine ⟨S 52 12, ?_, ?_⟩
    · rw [E121, E121_1_1 _ _ (nI 1) _ rfl]
      simp only [g_6_2, g_16_1, hc, z_bs]
    · rw [E215, if_pos (by decide), E215_22]
      simp only [show (¬ (nI 1 = 0)) = True from eq_true (by decide), show (¬ (nI 1 = 1)) = False from eq_false (fun q => q rfl), z_iT, z_iF, g_52_12, z_bs]
  · refine ⟨S 52 15, ?_, ?_⟩
    · rw [E121, E121_1_2 _ _ (nI 2) _ rfl]
      simp only [g_6_3, g_18_2, ht, z_bs]
    · rw [E215, if_pos (by decide), E215_22]
      simp only [show (¬ (nI 2 = 0)) = True from eq_true (by decide), show (¬ (nI 2 = 1)) = True from eq_true (by decide), show (¬ (nI 2 = 2)) = False from eq_false (fun q => q rfl), z_iT, z_iF, g_52_15, z_bs]
  · refine ⟨S 52 16, ?_, ?_⟩
    · rw [E121, E121_1_3 _ _ (nI 3) _ rfl]
      simp only [g_6_3, g_18_3, l_22 (show z_in 3 7 = true from by decide), show (3 : Int32).toNatClampNeg = 3 from rfl, h_I_tel.2, z_bs]
    · rw [E215, if_pos (by decide), E215_22]
      simp only [show (¬ (nI 3 = 0)) = True from eq_true (by decide), show (¬ (nI 3 = 1)) = True from eq_true (by decide), show (¬ (nI 3 = 2)) = True from eq_true (by decide), show (¬ (nI 3 = 3)) = False from eq_false (fun q => q rfl), z_iT, z_iF, g_52_16, z_bs]
  · refine ⟨nI nr, ?_, ?_⟩
    · rw [E121, E121_1_4 _ _ (nI 4) _ rfl]
      simp only [g_6_4, g_23_4, r2, z_bs]
    · rw [E215, if_pos (by decide), E215_22]
      simp only [show (¬ (nI 4 = 0)) = True from eq_true (by decide), show (¬ (nI 4 = 1)) = True from eq_true (by decide), show (¬ (nI 4 = 2)) = True from eq_true (by decide), show (¬ (nI 4 = 3)) = True from eq_true (by decide), show (¬ (nI 4 = 4)) = False from eq_false (fun q => q rfl), z_iT, z_iF, g_52_26, r3, z_bs]
  · refine ⟨nI ns, ?_, ?_⟩
    · rw [E121, E121_1_5 _ _ (nI 5) _ rfl]
      simp only [g_6_5, g_28_6, s2, z_bs]
    · rw [E215, if_pos (by decide), E215_22]
      simp only [show (¬ (nI 5 = 0)) = True from eq_true (by decide), show (¬ (nI 5 = 1)) = True from eq_true (by decide), show (¬ (nI 5 = 2)) = True from eq_true (by decide), show (¬ (nI 5 = 3)) = True from eq_true (by decide), show (¬ (nI 5 = 4)) = True from eq_true (by decide), show (¬ (nI 5 = 5)) = False from eq_false (fun q => q rfl), z_iT, z_iF, g_52_28, s3, z_bs]
  · refine ⟨z_many (fun i => decide (¬ S 78 (i * 5 + 4) ≤ S 52 38)) n, ?_, ?_⟩
    · rw [E121, E121_1_6 _ _ (nI 6) _ rfl]
      simp only [g_6_7, o_42, M62 a1 a3, z_bs, z_runs_eq a10 a7 a9 n (Nat.le_refl _)]
    · rw [E215, if_pos (by decide), E215_22]
      simp only [show (¬ (nI 6 = 0)) = True from eq_true (by decide), show (¬ (nI 6 = 1)) = True from eq_true (by decide), show (¬ (nI 6 = 2)) = True from eq_true (by decide), show (¬ (nI 6 = 3)) = True from eq_true (by decide), show (¬ (nI 6 = 4)) = True from eq_true (by decide), show (¬ (nI 6 = 5)) = True from eq_true (by decide), show (¬ (nI 6 = 6)) = False from eq_false (fun q => q rfl), z_iT, z_iF, o_52, M213 a1 a4, z_bs]
  · refine ⟨nI k, ?_, ?_⟩
    · rw [E121, E121_1_7 _ _ (nI 7) _ rfl]
      simp only [g_6_7, g_42_11, a5, z_bs]
    · rw [E215, if_pos (by decide), E215_22]
      simp only [show (¬ (nI 7 = 0)) = True from eq_true (by decide), show (¬ (nI 7 = 1)) = True from eq_true (by decide), show (¬ (nI 7 = 2)) = True from eq_true (by decide), show (¬ (nI 7 = 3)) = True from eq_true (by decide), show (¬ (nI 7 = 4)) = True from eq_true (by decide), show (¬ (nI 7 = 5)) = True from eq_true (by decide), show (¬ (nI 7 = 6)) = True from eq_true (by decide), show (¬ (nI 7 = 7)) = False from eq_false (fun q => q rfl), z_iT, z_iF, g_52_41, a6, z_bs]
  · refine ⟨S 42 0, ?_, ?_⟩
    · rw [E121, E121_1_8 _ _ (nI 8) _ rfl]
      simp only [g_6_7, g_42_0, z_bs]
    · rw [E215, if_pos (by decide), E215_22]
      simp only [show (¬ (nI 8 = 0)) = True from eq_true (by decide), show (¬ (nI 8 = 1)) = True from eq_true (by decide), show (¬ (nI 8 = 2)) = True from eq_true (by decide), show (¬ (nI 8 = 3)) = True from eq_true (by decide), show (¬ (nI 8 = 4)) = True from eq_true (by decide), show (¬ (nI 8 = 5)) = True from eq_true (by decide), show (¬ (nI 8 = 6)) = True from eq_true (by decide), show (¬ (nI 8 = 7)) = True from eq_true (by decide), show (¬ (nI 8 = 8)) = False from eq_false (fun q => q rfl), z_iT, z_iF, g_52_38, a7, z_bs]
  · refine ⟨nI nt, ?_, ?_⟩
    · rw [E121, E121_1_9 _ _ (nI 9) _ rfl]
      simp only [g_6_3, g_18_0, g_19_1, t2, z_bs]
    · rw [E215, if_pos (by decide), E215_22]
      simp only [show (¬ (nI 9 = 0)) = True from eq_true (by decide), show (¬ (nI 9 = 1)) = True from eq_true (by decide), show (¬ (nI 9 = 2)) = True from eq_true (by decide), show (¬ (nI 9 = 3)) = True from eq_true (by decide), show (¬ (nI 9 = 4)) = True from eq_true (by decide), show (¬ (nI 9 = 5)) = True from eq_true (by decide), show (¬ (nI 9 = 6)) = True from eq_true (by decide), show (¬ (nI 9 = 7)) = True from eq_true (by decide), show (¬ (nI 9 = 8)) = True from eq_true (by decide), show (¬ (nI 9 = 9)) = False from eq_false (fun q => q rfl), z_iT, z_iF, g_52_18, t3, z_bs]
  · refine ⟨nI nw, ?_, ?_⟩
    · rw [E121, E121_1_10 _ _ (nI 10) _ rfl]
      simp only [g_6_5, g_28_13, w2, z_bs]
    · rw [E215, if_pos (by decide), E215_22]
      simp only [show (¬ (nI 10 = 0)) = True from eq_true (by decide), show (¬ (nI 10 = 1)) = True from eq_true (by decide), show (¬ (nI 10 = 2)) = True from eq_true (by decide), show (¬ (nI 10 = 3)) = True from eq_true (by decide), show (¬ (nI 10 = 4)) = True from eq_true (by decide), show (¬ (nI 10 = 5)) = True from eq_true (by decide), show (¬ (nI 10 = 6)) = True from eq_true (by decide), show (¬ (nI 10 = 7)) = True from eq_true (by decide), show (¬ (nI 10 = 8)) = True from eq_true (by decide), show (¬ (nI 10 = 9)) = True from eq_true (by decide), show (¬ (nI 10 = 10)) = False from eq_false (fun q => q rfl), z_iT, z_iF, g_52_35, w3, z_bs]
  · refine ⟨S 86 1, ?_, ?_⟩
    · rw [E121, E121_1_11 _ _ (nI 11) _ rfl, if_neg (by decide), if_neg (by decide)]
      simp only [g_6_0, z_bs, show nI 11 - 10 = nI 1 from by decide, l_7 (z_i7 1 (by decide)), show (nI 1).toNatClampNeg = 1 from by decide, h_I_ref 1 (by decide)]
    · rw [E215, if_neg (by decide), if_neg (by decide)]
      simp only [g_52_52, z_bs, show nI 11 - 10 = nI 1 from by decide, l_86 (z_i7 1 (by decide)), show (nI 1).toNatClampNeg = 1 from by decide]
  · refine ⟨S 86 2, ?_, ?_⟩
    · rw [E121, E121_1_12 _ _ (nI 12) _ rfl, if_neg (by decide), if_neg (by decide)]
      simp only [g_6_0, z_bs, show nI 12 - 10 = nI 2 from by decide, l_7 (z_i7 2 (by decide)), show (nI 2).toNatClampNeg = 2 from by decide, h_I_ref 2 (by decide)]
    · rw [E215, if_neg (by decide), if_neg (by decide)]
      simp only [g_52_52, z_bs, show nI 12 - 10 = nI 2 from by decide, l_86 (z_i7 2 (by decide)), show (nI 2).toNatClampNeg = 2 from by decide]
  · refine ⟨S 86 3, ?_, ?_⟩
    · rw [E121, E121_1_13 _ _ (nI 13) _ rfl, if_neg (by decide), if_neg (by decide)]
      simp only [g_6_0, z_bs, show nI 13 - 10 = nI 3 from by decide, l_7 (z_i7 3 (by decide)), show (nI 3).toNatClampNeg = 3 from by decide, h_I_ref 3 (by decide)]
    · rw [E215, if_neg (by decide), if_neg (by decide)]
      simp only [g_52_52, z_bs, show nI 13 - 10 = nI 3 from by decide, l_86 (z_i7 3 (by decide)), show (nI 3).toNatClampNeg = 3 from by decide]
  · refine ⟨S 86 4, ?_, ?_⟩
    · rw [E121, E121_1_14 _ _ (nI 14) _ rfl, if_neg (by decide), if_neg (by decide)]
      simp only [g_6_0, z_bs, show nI 14 - 10 = nI 4 from by decide, l_7 (z_i7 4 (by decide)), show (nI 4).toNatClampNeg = 4 from by decide, h_I_ref 4 (by decide)]
    · rw [E215, if_neg (by decide), if_neg (by decide)]
      simp only [g_52_52, z_bs, show nI 14 - 10 = nI 4 from by decide, l_86 (z_i7 4 (by decide)), show (nI 4).toNatClampNeg = 4 from by decide]
  · refine ⟨S 86 5, ?_, ?_⟩
    · rw [E121, E121_1_15 _ _ (nI 15) _ rfl, if_neg (by decide), if_neg (by decide)]
      simp only [g_6_0, z_bs, show nI 15 - 10 = nI 5 from by decide, l_7 (z_i7 5 (by decide)), show (nI 5).toNatClampNeg = 5 from by decide, h_I_ref 5 (by decide)]
    · rw [E215, if_neg (by decide), if_neg (by decide)]
      simp only [g_52_52, z_bs, show nI 15 - 10 = nI 5 from by decide, l_86 (z_i7 5 (by decide)), show (nI 5).toNatClampNeg = 5 from by decide]
  · refine ⟨S 86 6, ?_, ?_⟩
    · rw [E121, E121_1_16 _ _ (nI 16) _ rfl, if_neg (by decide), if_neg (by decide)]
      simp only [g_6_0, z_bs, show nI 16 - 10 = nI 6 from by decide, l_7 (z_i7 6 (by decide)), show (nI 6).toNatClampNeg = 6 from by decide, h_I_ref 6 (by decide)]
    · rw [E215, if_neg (by decide), if_neg (by decide)]
      simp only [g_52_52, z_bs, show nI 16 - 10 = nI 6 from by decide, l_86 (z_i7 6 (by decide)), show (nI 6).toNatClampNeg = 6 from by decide]
  · refine ⟨nI (z_cN (fun c => decide (¬ S 54 c = 0)) 400), ?_, ?_⟩
    · rw [E121, E121_1_17 _ _ (nI 17) _ rfl]
      have e := M44_4 (L := L) (Dh := Dh) (S := S) (R := R) (nx := nx) (sl := sl) h_I_saf.2 20 0 (by omega)
      have e : L44_4 (some 8) 0 0 (z_mk L Dh S R nx sl) = _ := e
      simp only [g_6_1, o_8, z_bs, E44, e]
      congr 3
      refine z_cN_congr 400 fun i hi => ?_
      rw [h_I_saf.1 i hi]
      cases z_bt (S 10 (i / 20)) (i % 20) <;> rfl
    · have e := M214_4 (L := L) (Dh := Dh) (S := S) (R := R) (nx := nx) (sl := sl) 400 0 (by omega)
      have e : L214_4 (some 52) 0 0 (z_mk L Dh S R nx sl) = _ := e
      rw [E215, if_neg (by decide), if_pos (by decide), E215_22]
      simp only [show (¬ (nI 17 = 0)) = True from eq_true (by decide), show (¬ (nI 17 = 1)) = True from eq_true (by decide), show (¬ (nI 17 = 2)) = True from eq_true (by decide), show (¬ (nI 17 = 3)) = True from eq_true (by decide), show (¬ (nI 17 = 4)) = True from eq_true (by decide), show (¬ (nI 17 = 5)) = True from eq_true (by decide), show (¬ (nI 17 = 6)) = True from eq_true (by decide), show (¬ (nI 17 = 7)) = True from eq_true (by decide), show (¬ (nI 17 = 8)) = True from eq_true (by decide), show (¬ (nI 17 = 9)) = True from eq_true (by decide), show (¬ (nI 17 = 10)) = True from eq_true (by decide), show (¬ (nI 17 = 17)) = False from eq_false (fun q => q rfl), z_iT, z_iF, o_52, z_bs, E214, e]
end ZSC
