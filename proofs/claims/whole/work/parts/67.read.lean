section ZTB
variable {L : Nat} {Dh : Nat → z_Sh} {S : Nat → Nat → Int32} {R : Nat → Nat → Option Nat} {nx sl : Nat}
variable {o β : Nat} {f : Nat → Int32} {n : Nat} {val : Nat → Int32}
/-! texts: the class reads them -/
def y_Tx (L : Nat) (Dh : Nat → z_Sh) (R : Nat → Nat → Option Nat) (nx sl o β : Nat) : Prop :=
  (∀ S, z_ob (z_mk L Dh S R nx sl) (some o) 9 = some ()) ∧ (∀ S, z_gR (z_mk L Dh S R nx sl) (some o) 9 0 = some (some β)) ∧
  (∀ S, z_gI (z_mk L Dh S R nx sl) (some o) 9 1 = some (S o 1)) ∧ (∀ S, z_gI (z_mk L Dh S R nx sl) (some o) 9 2 = some (S o 2)) ∧ (∀ S, z_gI (z_mk L Dh S R nx sl) (some o) 9 3 = some (S o 3)) ∧
  (∀ S x, z_pI 0 (z_mk L Dh S R nx sl) (some o) 9 1 x = some (z_mk L Dh (z_ups S o 1 x) R nx sl)) ∧ (∀ S x, z_pI 0 (z_mk L Dh S R nx sl) (some o) 9 2 x = some (z_mk L Dh (z_ups S o 2 x) R nx sl)) ∧ (∀ S x, z_pI 0 (z_mk L Dh S R nx sl) (some o) 9 3 x = some (z_mk L Dh (z_ups S o 3 x) R nx sl)) ∧
  (∀ S i, i < 60 → z_ldB (z_mk L Dh S R nx sl) (some β) (nI i) = some (S β i)) ∧ (∀ S, z_gR (z_mk L Dh S R nx sl) (some o) 9 4 = some (some 22)) ∧ β ≠ o ∧ o ≠ 22 ∧ o ≠ 3 ∧ o ≠ 4
def y_tc (S : Nat → Nat → Int32) (o : Nat) (a t : Int32) : Nat → Nat → Int32 := z_ups (z_ups S o 2 a) o 3 t
theorem y_tc1 {a t : Int32} : y_tc S o a t o 1 = S o 1 := by unfold y_tc; rw [z_upsK (by decide), z_upsK (by decide)]
theorem y_tc2 {a t : Int32} : y_tc S o a t o 2 = a := by unfold y_tc; rw [z_upsK (by decide), z_upsS]
theorem y_tc3 {a t : Int32} : y_tc S o a t o 3 = t := by unfold y_tc; rw [z_upsS]
theorem y_tcn {a t : Int32} {b : Nat} (h : b ≠ o) : y_tc S o a t b = S b := by unfold y_tc; rw [z_ups_ne h, z_ups_ne h]
theorem y_tcp2 {a t x : Int32} : z_ups (y_tc S o a t) o 2 x = y_tc S o x t := by
  funext b q
  unfold y_tc
  by_cases c : b = o
  · subst c
    rw [z_upsE, if_pos rfl]
    by_cases d : q = 2
    · subst d; rw [if_pos rfl, z_upsK (by decide), z_upsS]
    · rw [if_neg d]
      by_cases e : q = 3
      · subst e; rw [z_upsS, z_upsS]
      · rw [z_upsK e, z_upsK d, z_upsK e, z_upsK d]
  · rw [z_ups_ne c, z_ups_ne c, z_ups_ne c, z_ups_ne c, z_ups_ne c]
theorem y_tcp3 {a t x : Int32} : z_ups (y_tc S o a t) o 3 x = y_tc S o a x := by
  funext b q
  unfold y_tc
  by_cases c : b = o
  · subst c
    rw [z_upsE, if_pos rfl]
    by_cases d : q = 3
    · subst d; rw [if_pos rfl, z_upsS]
    · rw [if_neg d, z_upsK d, z_upsK d]
  · rw [z_ups_ne c, z_ups_ne c, z_ups_ne c, z_ups_ne c, z_ups_ne c]
def I_let (S : Nat → Nat → Int32) : Prop := S 3 1 = 0 ∧ S 4 0 = 119 ∧ S 4 1 = 103 ∧ S 4 2 = 115 ∧ S 4 3 = 116 ∧ S 4 4 = 104 ∧ S 4 5 = 113 ∧ S 4 6 = 98
/-- the text that stands there -/
def y_Tb (S : Nat → Nat → Int32) (o β : Nat) (f : Nat → Int32) (n : Nat) (val : Nat → Int32) : Prop := S o 1 = nI n ∧ n ≤ 60 ∧ (∀ i, i < n → S β i = f i) ∧ (∀ i, i < n → -128 ≤ (f i).toInt ∧ (f i).toInt ≤ 127) ∧ (∀ i, i < 7 → S 22 i = val i) ∧ I_let S
theorem y_nm1 {p : Nat} (h : p < 1000000) : ¬ nI p = (-1 : Int32) := fun q => by
  have := z_eq.mp q
  rw [z_nI (by omega)] at this
  have e1 : (-1 : Int32).toInt = -1 := rfl
  omega
theorem M77 (X : y_Tx L Dh R nx sl o β) (B : y_Tb S o β f n val) {a : Nat} (ha : a ≤ n) {c : Int32} : z_cI 1 77 [.inr (.inr (some o)), .inl c] (z_mk L Dh (y_tc S o (nI a) (-1)) R nx sl) = some (if a < n ∧ f a = c then 1 else 0, z_mk L Dh (y_tc S o (nI a) (-1)) R nx sl) := by
  obtain ⟨x1, x2, x3, x4, x5, x6, x7, x8, x9, x10, x11, x12, x13, x14⟩ := X
  obtain ⟨b1, b2, b3, b4, b5, b6⟩ := B
  rw [E77]
  simp only [x5, x4, x3, x2, y_tc3, y_tc2, y_tc1, z_bs, b1, not_true, z_iF]
  by_cases d : a < n
  · rw [if_neg (nI_ge d (by omega)), x9 _ a (by omega), y_tcn x11, b3 a d]
    simp only [z_bs]
    by_cases e : f a = c
    · rw [if_neg (fun q => q e), if_pos ⟨d, e⟩]
    · rw [if_pos e, if_neg (fun q => e q.2)]
  · rw [if_pos (nI_le (by omega) (by omega)), if_neg (fun q => d q.1)]
theorem M77f (X : y_Tx L Dh R nx sl o β) {p : Nat} (hp : p < 1000) {A c : Int32} : z_cI 1 77 [.inr (.inr (some o)), .inl c] (z_mk L Dh (y_tc S o A (nI p)) R nx sl) = some (0, z_mk L Dh (y_tc S o A (nI p)) R nx sl) := by
  obtain ⟨x1, x2, x3, x4, x5, -⟩ := X
  rw [E77]
  simp only [x5, y_tc3, z_bs]
  rw [if_pos (y_nm1 (by omega))]
theorem M78 (X : y_Tx L Dh R nx sl o β) (B : y_Tb S o β f n val) {a : Nat} (ha : a ≤ n) {c : Int32} : z_cI 2 78 [.inr (.inr (some o)), .inl c] (z_mk L Dh (y_tc S o (nI a) (-1)) R nx sl) = if a < n ∧ f a = c then some (1, z_mk L Dh (y_tc S o (nI (a + 1)) (-1)) R nx sl) else some (0, z_mk L Dh (y_tc S o (nI a) (-1)) R nx sl) := by
  have h := M77 X B ha (c := c)
  obtain ⟨x1, x2, x3, x4, x5, x6, x7, x8, x9, x10, x11, x12, x13, x14⟩ := X
  rw [E78]
  simp only [x1, z_bs, h]
  by_cases d : a < n ∧ f a = c
  · rw [if_pos d, if_neg (by decide), if_pos d, x4, y_tc2]
    simp only [z_bs, x7, y_tcp2, nI_1]
    exact if_pos (Or.inr trivial)
  · rw [if_neg d, if_pos rfl, if_neg d, if_pos (Or.inl rfl)]
theorem M78f (X : y_Tx L Dh R nx sl o β) {p : Nat} (hp : p < 1000) {A c : Int32} : z_cI 2 78 [.inr (.inr (some o)), .inl c] (z_mk L Dh (y_tc S o A (nI p)) R nx sl) = some (0, z_mk L Dh (y_tc S o A (nI p)) R nx sl) := by
  have h := M77f (S := S) X hp (A := A) (c := c)
  rw [E78]
  simp only [X.1, z_bs, h, z_e00, z_iT, true_or]
theorem M79 (X : y_Tx L Dh R nx sl o β) {A x : Int32} : z_cV 1 79 [.inr (.inr (some o)), .inl x] (z_mk L Dh (y_tc S o A (-1)) R nx sl) = some (z_mk L Dh (y_tc S o A x) R nx sl) := by
  obtain ⟨x1, x2, x3, x4, x5, x6, x7, x8, x9, x10, x11, x12, x13, x14⟩ := X
  rw [E79]
  simp only [x5, y_tc3, z_bs, not_true, z_iF, x8, y_tcp3]
theorem M79f (X : y_Tx L Dh R nx sl o β) {p : Nat} (hp : p < 1000) {A x : Int32} : z_cV 1 79 [.inr (.inr (some o)), .inl x] (z_mk L Dh (y_tc S o A (nI p)) R nx sl) = some (z_mk L Dh (y_tc S o A (nI p)) R nx sl) := by
  obtain ⟨x1, x2, x3, x4, x5, -⟩ := X
  rw [E79]
  simp only [x5, y_tc3, z_bs]
  rw [if_pos (y_nm1 (by omega))]
/-! letters -/
theorem y_byt : ∀ k, k < 256 → ((((nI k - 128) &&& (255 : Int32)).toUInt32 % 65536).toInt32).toInt8.toInt32 = nI k - 128 ∧ 0 ≤ (((nI k - 128) &&& (255 : Int32)).toUInt32 % 65536).toInt32 ∧ (((nI k - 128) &&& (255 : Int32)).toUInt32 % 65536).toInt32 ≤ 255 := by decide +kernel
theorem y_bytk {b : Int32} (h1 : -128 ≤ b.toInt) (h2 : b.toInt ≤ 127) : ∃ k, k < 256 ∧ b = nI k - 128 := by
  refine ⟨(b.toInt + 128).toNat, by omega, ?_⟩
  have e : (128 : Int32).toInt = 128 := rfl
  rw [z_eq, z_sub (by rw [z_nI (by omega), e]; omega) (by rw [z_nI (by omega), e]; omega), z_nI (by omega), e]
  omega
def y_lti (b : Int32) : Int32 := match y_lt b with
  | some i => nI i
  | none => -1
theorem M226 (hl : I_let S) {b : Int32} : L226_7 (some 4) 7 b 0 (z_mk L Dh S R nx sl) = some (y_lti b, z_mk L Dh S R nx sl) := by
  obtain ⟨h0, h1, h2, h3, h4, h5, h6, h7⟩ := hl
  have st : ∀ i, i < 7 → L226_7 (some 4) 7 b (nI i) (z_mk L Dh S R nx sl) = if ¬ S 4 i = b then L226_7 (some 4) 7 b (nI (i + 1)) (z_mk L Dh S R nx sl) else some (nI i, z_mk L Dh S R nx sl) := fun i hi => by
    rw [E226_7, if_neg (show ¬ (7 : Int32) ≤ nI i from nI_ge (b := 7) hi (by decide)), l_4 (z_in_nI hi (by decide)), z_cl (by omega), nI_1]
    rfl
  have e7 : L226_7 (some 4) 7 b (nI 7) (z_mk L Dh S R nx sl) = some (-1, z_mk L Dh S R nx sl) := by rw [E226_7, if_pos (show (7 : Int32) ≤ nI 7 by decide)]
  show L226_7 (some 4) 7 b (nI 0) (z_mk L Dh S R nx sl) = _
  rw [st 0 (by decide), st 1 (by decide), st 2 (by decide), st 3 (by decide), st 4 (by decide), st 5 (by decide), st 6 (by decide), e7, h1, h2, h3, h4, h5, h6, h7]
  unfold y_lti y_lt
  by_cases c0 : b = 119
  · subst c0; rfl
  · rw [if_pos (fun q => c0 q.symm), if_neg c0]
    by_cases c1 : b = 103
    · subst c1; rfl
    · rw [if_pos (fun q => c1 q.symm), if_neg c1]
      by_cases c2 : b = 115
      · subst c2; rfl
      · rw [if_pos (fun q => c2 q.symm), if_neg c2]
        by_cases c3 : b = 116
        · subst c3; rfl
        · rw [if_pos (fun q => c3 q.symm), if_neg c3]
          by_cases c4 : b = 104
          · subst c4; rfl
          · rw [if_pos (fun q => c4 q.symm), if_neg c4]
            by_cases c5 : b = 113
            · subst c5; rfl
            · rw [if_pos (fun q => c5 q.symm), if_neg c5]
              by_cases c6 : b = 98
              · subst c6; rfl
              · rw [if_pos (fun q => c6 q.symm), if_neg c6]
theorem M221 (hl : I_let S) : z_cI 1 221 [.inr (.inr (some 3))] (z_mk L Dh S R nx sl) = some (1, z_mk L Dh S R nx sl) := by
  rw [E221, if_neg (by decide), g_3_1]
  simp only [z_bs, hl.1, not_true, z_e00, z_iF]
theorem M216 (hl : I_let S) : z_cI 2 216 [.inr (.inr (some 3))] (z_mk L Dh S R nx sl) = some (7, z_mk L Dh S R nx sl) := by
  have e : z_cI 1 220 [.inr (.inr (some 3))] (z_mk L Dh S R nx sl) = some (0, z_mk L Dh S R nx sl) := by
    rw [E220, if_neg (by decide), g_3_1]
    simp only [z_bs, hl.1]
    rw [if_pos (by decide)]
  rw [E216]
  simp only [g_3_0, o_3, z_bs, n_4, e]
  rfl
theorem M218 (hl : I_let S) {b : Int32} (h1 : -128 ≤ b.toInt) (h2 : b.toInt ≤ 127) : z_cI 4 218 [.inr (.inr (some 3)), .inl ((b &&& (255 : Int32)).toUInt32 % 65536).toInt32] (z_mk L Dh S R nx sl) = some (y_lti b, z_mk L Dh S R nx sl) := by
  obtain ⟨k, hk, rfl⟩ := y_bytk h1 h2
  obtain ⟨q1, q2, q3⟩ := y_byt k hk
  generalize (((nI k - 128) &&& (255 : Int32)).toUInt32 % 65536).toInt32 = w at q1 q2 q3
  rw [E218]
  simp only [o_3, z_bs]
  rw [E219]
  simp only [o_3, z_bs, M221 hl, z_10, z_iF, g_3_0, M216 hl]
  rw [E225, E224, if_neg (Int32.not_lt.mpr q2), if_neg (Int32.not_lt.mpr q3)]
  simp only [z_bs, z_10, not_false_eq_true, z_iT, M229, M230, n_4]
  rw [E226, q1]
  have := M226 (L := L) (Dh := Dh) (R := R) (nx := nx) (sl := sl) hl (b := nI k - 128)
  rw [show (if (0 : Int32) < 0 then (0 : Int32) else 0) = 0 from rfl, show (if (7 : Int32) < 7 then (7 : Int32) else 7) = 7 from rfl, this]
  simp only [z_bs]
  rw [if_pos (by decide)]
  rfl
end ZTB
