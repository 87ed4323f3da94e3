section ZTK
variable {L : Nat} {Dh : Nat → z_Sh} {S : Nat → Nat → Int32} {R : Nat → Nat → Option Nat} {nx sl : Nat}
variable {f : Nat → Int32} {n c o : Nat} {val v w : Nat → Int32} {ms : List y_Mv} {ad : Nat → Nat} {cs : List y_Cm} {ca : Nat → Nat} {C V : Nat → Bool} {st kk : Nat} {tx : Nat → Option (Nat × Nat)}
/-! values that are not mentioned don't matter -/
theorem y_unt_v (h : ∀ a i, a < n → y_lt (f a) = some i → v i = w i) : y_unt f n v = y_unt f n w := by
  funext a
  unfold y_unt
  have e : y_unl f n v a = y_unl f n w a := by
    unfold y_unl
    by_cases c : a < n
    · rw [if_pos c, if_pos c]
      cases hy : y_lt (f a) with
      | none => rfl
      | some i =>
        show (.inr (a + 1, v i) : y_Rs Int32) = .inr (a + 1, w i)
        rw [h a i c hy]
    · rw [if_neg c, if_neg c]
  rw [e]
theorem y_cpr_v (h : ∀ a i, a < n → y_lt (f a) = some i → v i = w i) : y_cpr f n v = y_cpr f n w := by
  funext a
  unfold y_cpr
  rw [y_unt_v h]
theorem y_tst_v (h : ∀ a i, a < n → y_lt (f a) = some i → v i = w i) : ∀ k, y_tst f n v k = y_tst f n w k
  | 0 => by
    funext a
    rw [y_tst_0, y_tst_0, y_cpr_v h]
  | k + 1 => by
    funext a
    rw [y_tst_s, y_tst_s, y_cpr_v h, y_tst_v h k]
theorem y_val_v (h : ∀ a i, a < n → y_lt (f a) = some i → v i = w i) : y_val f n v = y_val f n w := by
  unfold y_val y_all
  rw [y_tst_v h 5]
/-! mentions -/
def y_mn (f : Nat → Int32) (ch : Int32) : Nat → Nat → Bool
  | 0, _ => false
  | j + 1, i => decide (f i = ch) || y_mn f ch j (i + 1)
theorem y_mn_iff {ch : Int32} : ∀ (j i : Nat), y_mn f ch j i = true ↔ ∃ a, i ≤ a ∧ a < i + j ∧ f a = ch
  | 0, i => by
    constructor
    · intro h; cases h
    · rintro ⟨a, h1, h2, -⟩; omega
  | j + 1, i => by
    show (decide (f i = ch) || y_mn f ch j (i + 1)) = true ↔ _
    rw [Bool.or_eq_true, decide_eq_true_iff, y_mn_iff j (i + 1)]
    constructor
    · rintro (h | ⟨a, h1, h2, h3⟩)
      · exact ⟨i, Nat.le_refl _, by omega, h⟩
      · exact ⟨a, by omega, by omega, h3⟩
    · rintro ⟨a, h1, h2, h3⟩
      by_cases q : a = i
      · left; rw [← q]; exact h3
      · right; exact ⟨a, by omega, by omega, h3⟩
theorem M217 (hl : I_let S) {i : Nat} (hi : i = 4 ∨ i = 5 ∨ i = 6) : z_cI 4 217 [.inr (.inr (some 3)), .inl (nI i)] (z_mk L Dh S R nx sl) = some (S 4 i, z_mk L Dh S R nx sl) := by
  have hl' := hl
  obtain ⟨h0, h1, h2, h3, h4, h5, h6, h7⟩ := hl
  have i7 : i < 7 := by omega
  have e222 : z_cV 2 222 [.inl (nI i), .inl (7 : Int32)] (z_mk L Dh S R nx sl) = some (z_mk L Dh S R nx sl) := by
    rw [E222, E232, if_neg (nI_pos (by omega)), if_pos (show nI i < (7 : Int32) from nI_lt (b := 7) i7 (by decide))]
    rfl
  rw [E217]
  simp only [o_3, z_bs, M221 hl', z_10, z_iF, g_3_0]
  rw [E223]
  simp only [n_4, z_bs, e222, l_4 (z_in_nI i7 (by decide)), z_cl (show i < 2147483648 by omega)]
  rcases hi with rfl | rfl | rfl
  · rw [h5]; rfl
  · rw [h6]; rfl
  · rw [h7]; rfl
theorem M71 (hl : I_let S) (hO : y_To Dh R o) (hn : n ≤ 60) (h1 : S o 1 = nI n) {i : Nat} (hi : i = 4 ∨ i = 5 ∨ i = 6) : z_cI 5 71 [.inr (.inr (some o)), .inl (nI i)] (z_mk L Dh S R nx sl) = some (y_b (y_mn (S (o + 1)) (S 4 i) n 0), z_mk L Dh S R nx sl) := by
  obtain ⟨o1, o2, oB, oC⟩ := hO
  have loop : ∀ (j a : Nat), a + j = n → L71_2 (some o) (nI i) (nI a) (z_mk L Dh S R nx sl) = some (y_b (y_mn (S (o + 1)) (S 4 i) j a), z_mk L Dh S R nx sl) := by
    intro j
    induction j with
    | zero =>
      intro a ha
      rw [E71_2, m_gI ((y_shp o1).trans o2) rfl (by decide), h1]
      simp only [z_bs]
      rw [if_pos (nI_le (by omega) (by omega))]
      rfl
    | succ j ih =>
      intro a ha
      rw [E71_2, m_gI ((y_shp o1).trans o2) rfl (by decide), h1]
      simp only [z_bs]
      rw [if_neg (nI_ge (by omega) (by omega)), m_gR ((y_shp o1).trans o2) rfl, oC]
      simp only [z_bs]
      rw [m_ldB ((y_shp (by omega)).trans oB) (Or.inr (Or.inl rfl)) (z_in_nI (show a < 60 by omega) (by decide)), z_cl (show a < 2147483648 by omega)]
      simp only [z_bs, o_3, M217 hl hi, nI_1]
      show _ = some (y_b (decide (S (o + 1) a = S 4 i) || y_mn (S (o + 1)) (S 4 i) j (a + 1)), _)
      by_cases q : S (o + 1) a = S 4 i
      · rw [if_neg (fun w => w q), decide_eq_true q, Bool.true_or]; rfl
      · rw [if_pos q, decide_eq_false q, Bool.false_or]
        exact ih (a + 1) (by omega)
  rw [E71]
  exact loop n 0 (by omega)
end ZTK
