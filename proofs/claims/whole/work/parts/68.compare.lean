section ZTC
variable {L : Nat} {Dh : Nat → z_Sh} {S : Nat → Nat → Int32} {R : Nat → Nat → Option Nat} {nx sl : Nat}
variable {o β : Nat} {f : Nat → Int32} {n : Nat} {val : Nat → Int32}
theorem y_idI (b : Int32) : y_id b = true ↔ ¬ b < 48 ∧ ¬ 57 < b := by
  unfold y_id
  rw [Bool.and_eq_true, Bool.not_eq_true', Bool.not_eq_true', decide_eq_false_iff_not, decide_eq_false_iff_not]
theorem M76_14 (X : y_Tx L Dh R nx sl o β) (B : y_Tb S o β f n val) : ∀ (j c a : Nat) (v : Int32), c + j = 4 → a ≤ n → L76_14 (some o) v (nI c) (z_mk L Dh (y_tc S o (nI a) (-1)) R nx sl) = L76_92 (some o) (y_dgs f n j a v).2 (nI (c + ((y_dgs f n j a v).1 - a))) (z_mk L Dh (y_tc S o (nI (y_dgs f n j a v).1) (-1)) R nx sl) := by
  obtain ⟨x1, x2, x3, x4, x5, x6, x7, x8, x9, x10, x11, x12, x13, x14⟩ := X
  obtain ⟨b1, b2, b3, b4, b5, b6⟩ := B
  intro j
  induction j with
  | zero =>
    intro c a v hc ha
    obtain rfl : c = 4 := by omega
    rw [E76_14, if_pos (show (4 : Int32) ≤ nI 4 by decide), show y_dgs f n 0 a v = (a, v) from rfl]
    show _ = L76_92 (some o) v (nI (4 + (a - a))) _
    rw [Nat.sub_self]
  | succ j ih =>
    intro c a v hc ha
    rw [E76_14, if_neg (show ¬ (4 : Int32) ≤ nI (c) from nI_ge (a := c) (b := 4) (by omega) (by decide)), y_dgs_s]
    simp only [x4, x3, x2, y_tc2, y_tc1, z_bs, b1]
    have stop : L76_92 (some o) v (nI c) (z_mk L Dh (y_tc S o (nI a) (-1)) R nx sl) = L76_92 (some o) (a, v).2 (nI (c + ((a, v).1 - a))) (z_mk L Dh (y_tc S o (nI (a, v).1) (-1)) R nx sl) := by
      show _ = L76_92 (some o) v (nI (c + (a - a))) _
      rw [Nat.sub_self, Nat.add_zero]
    by_cases d : a < n
    · rw [if_neg (nI_ge d (by omega)), x9 _ a (by omega), y_tcn x11, b3 a d]
      simp only [z_bs]
      by_cases e : y_id (f a) = true
      · have e' := (y_idI _).mp e
        rw [if_neg e'.1, if_neg e'.2, if_pos ⟨d, e⟩, x7, y_tcp2]
        simp only [z_bs, nI_1]
        rw [ih (c + 1) (a + 1) _ (by omega) (by omega)]
        have hb := y_dgs_b f n j (a + 1) (((10 : Int32) * v + f a) - 48) (by omega)
        rw [show c + 1 + ((y_dgs f n j (a + 1) (((10 : Int32) * v + f a) - 48)).1 - (a + 1)) = c + ((y_dgs f n j (a + 1) (((10 : Int32) * v + f a) - 48)).1 - a) by omega]
      · rw [if_neg (show ¬ (a < n ∧ y_id (f a) = true) from fun q => e q.2)]
        by_cases g : f a < 48
        · rw [if_pos g]; exact stop
        · rw [if_neg g]
          by_cases g2 : 57 < f a
          · rw [if_pos g2]; exact stop
          · exact absurd ((y_idI _).mpr ⟨g, g2⟩) e
    · rw [if_pos (nI_le (by omega) (by omega)), if_neg (show ¬ (a < n ∧ y_id (f a) = true) from fun q => d q.1)]
      exact stop
theorem y_lti_some {b : Int32} {i : Nat} (h : y_lt b = some i) : i < 7 := by
  unfold y_lt at h
  by_cases c0 : b = 119
  · rw [if_pos c0] at h; have := Option.some.inj h; omega
  · rw [if_neg c0] at h
    by_cases c1 : b = 103
    · rw [if_pos c1] at h; have := Option.some.inj h; omega
    · rw [if_neg c1] at h
      by_cases c2 : b = 115
      · rw [if_pos c2] at h; have := Option.some.inj h; omega
      · rw [if_neg c2] at h
        by_cases c3 : b = 116
        · rw [if_pos c3] at h; have := Option.some.inj h; omega
        · rw [if_neg c3] at h
          by_cases c4 : b = 104
          · rw [if_pos c4] at h; have := Option.some.inj h; omega
          · rw [if_neg c4] at h
            by_cases c5 : b = 113
            · rw [if_pos c5] at h; have := Option.some.inj h; omega
            · rw [if_neg c5] at h
              by_cases c6 : b = 98
              · rw [if_pos c6] at h; have := Option.some.inj h; omega
              · rw [if_neg c6] at h; cases h
theorem M76 (X : y_Tx L Dh R nx sl o β) (B : y_Tb S o β f n val) {a : Nat} (ha : a ≤ n) : z_cI 5 76 [.inr (.inr (some o))] (z_mk L Dh (y_tc S o (nI a) (-1)) R nx sl) = match y_unt f n val a with
    | .inl p => some (0, z_mk L Dh (y_tc S o (nI p) (nI p)) R nx sl)
    | .inr x => some (x.2, z_mk L Dh (y_tc S o (nI x.1) (-1)) R nx sl) := by
  have h14 := M76_14 X B 4 0 a 0 (by omega) ha
  have X' := X
  obtain ⟨x1, x2, x3, x4, x5, x6, x7, x8, x9, x10, x11, x12, x13, x14⟩ := X
  obtain ⟨b1, b2, b3, b4, b5, b6⟩ := B
  have hb := y_dgs_b f n 4 a 0 ha
  rw [E76]
  simp only [x5, y_tc3, z_bs, z_iT]
  show L76_14 (some o) 0 (nI 0) _ = _
  rw [h14, E76_92, Nat.zero_add]
  unfold y_unt
  by_cases c : (y_dgs f n 4 a 0).1 = a
  · rw [if_pos c, c, Nat.sub_self, if_pos (by decide)]
    simp only [x4, x3, y_tc2, y_tc1, z_bs, b1]
    unfold y_unl
    have fl : ∀ w : Int32, w < 0 → L76_132 (some o) w (z_mk L Dh (y_tc S o (nI a) (-1)) R nx sl) = some (0, z_mk L Dh (y_tc S o (nI a) (nI a)) R nx sl) := fun w hw => by
      rw [E76_132, if_pos hw]
      simp only [x4, y_tc2, z_bs, x1, M79 X']
    by_cases d : a < n
    · rw [if_neg (nI_ge d (by omega)), if_pos d, x2]
      simp only [z_bs, x4, y_tc2]
      rw [x9 _ a (by omega), y_tcn x11, b3 a d]
      have hl : I_let (y_tc S o (nI a) (-1)) := by unfold I_let; rw [y_tcn x13.symm, y_tcn x14.symm]; exact b6
      simp only [z_bs, o_3, M218 hl (b4 a d).1 (b4 a d).2]
      unfold y_lti
      cases hy : y_lt (f a) with
      | none => exact fl _ (by decide)
      | some i =>
        have hi := y_lti_some hy
        show L76_132 (some o) (nI i) _ = some (val i, _)
        rw [E76_132, if_neg (nI_pos (by omega)), x10]
        simp only [z_bs, n_22]
        rw [if_pos (show nI i < (7 : Int32) from nI_lt (b := 7) hi (by decide))]
        simp only [x4, y_tc2, z_bs, x7, y_tcp2, nI_1, x10, l_22 (z_in_nI hi (by decide)), z_cl (show i < 2147483648 by omega)]
        rw [y_tcn x12.symm, b5 i hi]
    · rw [if_pos (nI_le (by omega) (by omega)), if_neg d]
      exact fl _ (by decide)
  · rw [if_neg c, if_neg (show ¬ nI ((y_dgs f n 4 a 0).1 - a) ≤ (0 : Int32) from nI_ge (a := 0) (by omega) (by omega))]
theorem M76f (X : y_Tx L Dh R nx sl o β) {p : Nat} (hp : p < 1000) {A : Int32} : z_cI 5 76 [.inr (.inr (some o))] (z_mk L Dh (y_tc S o A (nI p)) R nx sl) = some (0, z_mk L Dh (y_tc S o A (nI p)) R nx sl) := by
  obtain ⟨x1, x2, x3, x4, x5, -⟩ := X
  rw [E76]
  simp only [x5, y_tc3, z_bs]
  rw [if_neg (y_nm1 (by omega))]
end ZTC
