section ZSA
variable {L : Nat} {Dh : Nat → z_Sh} {S : Nat → Nat → Int32} {R : Nat → Nat → Option Nat} {nx sl : Nat}
theorem z_ld73_0 {i : Nat} (h : i < 7) : z_ldI (z_mk L Dh S R nx sl) (some 73) (nI i * 6) = some (S 73 (i * 6 + 0)) := by rw [show nI i * 6 = nI (i * 6 + 0) from z_pl0 i 6]; rw [l_73 (z_in_nI (by omega) (by decide)), z_cl (by omega)]
theorem z_st73_0 {i : Nat} {x : Int32} (h : i < 7) : z_stI (z_mk L Dh S R nx sl) (some 73) (nI i * 6) x = some (z_mk L Dh (z_ups S 73 (i * 6 + 0) x) R nx sl) := by rw [show nI i * 6 = nI (i * 6 + 0) from z_pl0 i 6]; rw [s_73 (z_in_nI (by omega) (by decide)), z_cl (by omega)]
theorem z_ld73_1 {i : Nat} (h : i < 7) : z_ldI (z_mk L Dh S R nx sl) (some 73) (nI i * 6 + 1) = some (S 73 (i * 6 + 1)) := by rw [show nI i * 6 + 1 = nI (i * 6 + 1) from z_pl i 6 1]; rw [l_73 (z_in_nI (by omega) (by decide)), z_cl (by omega)]
theorem z_st73_1 {i : Nat} {x : Int32} (h : i < 7) : z_stI (z_mk L Dh S R nx sl) (some 73) (nI i * 6 + 1) x = some (z_mk L Dh (z_ups S 73 (i * 6 + 1) x) R nx sl) := by rw [show nI i * 6 + 1 = nI (i * 6 + 1) from z_pl i 6 1]; rw [s_73 (z_in_nI (by omega) (by decide)), z_cl (by omega)]
theorem z_ld73_2 {i : Nat} (h : i < 7) : z_ldI (z_mk L Dh S R nx sl) (some 73) (nI i * 6 + 2) = some (S 73 (i * 6 + 2)) := by rw [show nI i * 6 + 2 = nI (i * 6 + 2) from z_pl i 6 2]; rw [l_73 (z_in_nI (by omega) (by decide)), z_cl (by omega)]
theorem z_st73_2 {i : Nat} {x : Int32} (h : i < 7) : z_stI (z_mk L Dh S R nx sl) (some 73) (nI i * 6 + 2) x = some (z_mk L Dh (z_ups S 73 (i * 6 + 2) x) R nx sl) := by rw [show nI i * 6 + 2 = nI (i * 6 + 2) from z_pl i 6 2]; rw [s_73 (z_in_nI (by omega) (by decide)), z_cl (by omega)]
theorem z_ld73_3 {i : Nat} (h : i < 7) : z_ldI (z_mk L Dh S R nx sl) (some 73) (nI i * 6 + 3) = some (S 73 (i * 6 + 3)) := by rw [show nI i * 6 + 3 = nI (i * 6 + 3) from z_pl i 6 3]; rw [l_73 (z_in_nI (by omega) (by decide)), z_cl (by omega)]
theorem z_st73_3 {i : Nat} {x : Int32} (h : i < 7) : z_stI (z_mk L Dh S R nx sl) (some 73) (nI i * 6 + 3) x = some (z_mk L Dh (z_ups S 73 (i * 6 + 3) x) R nx sl) := by rw [show nI i * 6 + 3 = nI (i * 6 + 3) from z_pl i 6 3]; rw [s_73 (z_in_nI (by omega) (by decide)), z_cl (by omega)]
theorem z_ld73_4 {i : Nat} (h : i < 7) : z_ldI (z_mk L Dh S R nx sl) (some 73) (nI i * 6 + 4) = some (S 73 (i * 6 + 4)) := by rw [show nI i * 6 + 4 = nI (i * 6 + 4) from z_pl i 6 4]; rw [l_73 (z_in_nI (by omega) (by decide)), z_cl (by omega)]
theorem z_st73_4 {i : Nat} {x : Int32} (h : i < 7) : z_stI (z_mk L Dh S R nx sl) (some 73) (nI i * 6 + 4) x = some (z_mk L Dh (z_ups S 73 (i * 6 + 4) x) R nx sl) := by rw [show nI i * 6 + 4 = nI (i * 6 + 4) from z_pl i 6 4]; rw [s_73 (z_in_nI (by omega) (by decide)), z_cl (by omega)]
theorem z_ld73_5 {i : Nat} (h : i < 7) : z_ldI (z_mk L Dh S R nx sl) (some 73) (nI i * 6 + 5) = some (S 73 (i * 6 + 5)) := by rw [show nI i * 6 + 5 = nI (i * 6 + 5) from z_pl i 6 5]; rw [l_73 (z_in_nI (by omega) (by decide)), z_cl (by omega)]
theorem z_st73_5 {i : Nat} {x : Int32} (h : i < 7) : z_stI (z_mk L Dh S R nx sl) (some 73) (nI i * 6 + 5) x = some (z_mk L Dh (z_ups S 73 (i * 6 + 5) x) R nx sl) := by rw [show nI i * 6 + 5 = nI (i * 6 + 5) from z_pl i 6 5]; rw [s_73 (z_in_nI (by omega) (by decide)), z_cl (by omega)]
/-- the day's shots -/
def I_sht (S : Nat → Nat → Int32) : Prop := ∃ n : Nat, n ≤ 7 ∧ S 28 6 = nI n ∧ S 52 28 = nI n ∧ ∀ i, i < n → S 29 i = S 73 (i * 6 + 0) ∧ S 30 i = S 73 (i * 6 + 1) ∧ S 31 i = S 73 (i * 6 + 2) ∧ S 32 i = S 73 (i * 6 + 3) ∧ S 33 i = S 73 (i * 6 + 4) ∧ S 34 i = S 73 (i * 6 + 5) ∧ 1 ≤ (S 30 i).toInt ∧ (S 30 i).toInt ≤ 300 ∧ 0 ≤ (S 31 i).toInt ∧ (S 31 i).toInt ≤ 999 ∧ (S 32 i).toInt ≤ 999 ∧ 0 ≤ (S 33 i).toInt ∧ (S 33 i).toInt ≤ 999 ∧ 0 ≤ (S 34 i).toInt ∧ (S 34 i).toInt ≤ 99
theorem I_sht_fr {S S' : Nat → Nat → Int32} (h : I_sht S) (e : S' 28 6 = S 28 6 ∧ S' 29 = S 29 ∧ S' 30 = S 30 ∧ S' 31 = S 31 ∧ S' 32 = S 32 ∧ S' 33 = S 33 ∧ S' 34 = S 34 ∧ S' 73 = S 73 ∧ S' 52 28 = S 52 28) : I_sht S' := by
  obtain ⟨e1, e2, e3, e4, e5, e6, e7, e8, e9⟩ := e
  unfold I_sht
  rw [e1, e2, e3, e4, e5, e6, e7, e8, e9]
  exact h
/-- when a shot that begins behind e is over -/
def z_ov (f m e : Int32) : Int32 := (if e < f then f else e) + m
theorem M20 {i : Nat} (hi : i < 7) (e : Int32) : z_cI 2 20 [.inr (.inr (some 28)), .inl (nI i), .inl e] (z_mk L Dh S R nx sl) = some (z_ov (S 31 i) (S 30 i) e, z_mk L Dh S R nx sl) := by
  have h1 : z_in (nI i) 7 = true := z_in_nI hi (by decide)
  have h2 : (nI i).toNatClampNeg = i := z_cl (by omega)
  rw [E20]
  simp only [g_28_1, g_28_2, z_bs, l_31 h1, l_30 h1, h2, M229]
  rfl
theorem M190 {i : Nat} (hi : i < 7) (e : Int32) : z_cI 1 190 [.inr (.inr (some 52)), .inl (nI i), .inl e] (z_mk L Dh S R nx sl) = some (if z_ov (S 73 (i * 6 + 2)) (S 73 (i * 6 + 1)) e ≤ S 73 (i * 6 + 3) then z_ov (S 73 (i * 6 + 2)) (S 73 (i * 6 + 1)) e else -1, z_mk L Dh S R nx sl) := by
  rw [E190]
  simp only [g_52_29, z_bs, z_ld73_2 hi, E190_30, z_ld73_1 hi, z_ld73_3 hi]
  have key : (if e ≤ S 73 (i * 6 + 2) then S 73 (i * 6 + 2) else e) = (if e < S 73 (i * 6 + 2) then S 73 (i * 6 + 2) else e) := by
    by_cases c : e < S 73 (i * 6 + 2)
    · rw [if_pos c, if_pos (Int32.le_of_lt c)]
    · rw [if_neg c]
      by_cases c2 : e ≤ S 73 (i * 6 + 2)
      · rw [if_pos c2]; exact Int32.le_antisymm (Int32.not_lt.mp c) c2
      · rw [if_neg c2]
  unfold z_ov
  rw [← key]
  by_cases c : e ≤ S 73 (i * 6 + 2)
  · simp only [c, z_iT]
    by_cases d : S 73 (i * 6 + 2) + S 73 (i * 6 + 1) ≤ S 73 (i * 6 + 3)
    · rw [if_pos d, if_pos d]
    · rw [if_neg d, if_neg d]
  · simp only [c, z_iF]
    by_cases d : e + S 73 (i * 6 + 1) ≤ S 73 (i * 6 + 3)
    · rw [if_pos d, if_pos d]
    · rw [if_neg d, if_neg d]
theorem z_ov_b {f m e : Int32} (h1 : 1 ≤ m.toInt) (h2 : m.toInt ≤ 300) (h3 : 0 ≤ f.toInt) (h4 : f.toInt ≤ 999) (h5 : 0 ≤ e.toInt) (h6 : e.toInt ≤ 999) : 0 ≤ (z_ov f m e).toInt ∧ (z_ov f m e).toInt ≤ 1299 := by
  unfold z_ov
  by_cases c : e < f
  · rw [if_pos c, z_add (by omega) (by omega)]; omega
  · rw [if_neg c, z_add (by omega) (by omega)]; omega
/-- shots as bits -/
theorem z_us1 : ∀ u, u < 128 → ∀ s, s < 7 → (((nI u >>> (nI s &&& 31)) &&& (1 : Int32)) = 0 ↔ u.testBit s = false) := by decide +kernel
theorem z_us2 : ∀ u, u < 128 → ∀ s, s < 7 → nI u ||| ((1 : Int32) <<< (nI s &&& 31)) = nI (u ||| 1 <<< s) ∧ u ||| 1 <<< s < 128 := by decide +kernel
def z_pc (u : Nat) : Nat := (List.range 7).countP fun s => u.testBit s
theorem z_us3 : ∀ u, u < 128 → ∀ s, s < 7 → u.testBit s = false → z_pc (u ||| 1 <<< s) = z_pc u + 1 := by decide +kernel
theorem z_us4 : ∀ u, u < 128 → ∀ s, s < 7 → ∀ t, t < 7 → (u ||| 1 <<< s).testBit t = (u.testBit t || decide (t = s)) := by decide +kernel
theorem z_us5 : ∀ n, n < 8 → ∀ u, u < 128 → (∀ s, s < 7 → u.testBit s = true → s < n) → z_pc u = n → ∀ s, s < n → u.testBit s = true := by decide +kernel
theorem z_us6 : ∀ n, n < 8 → ∀ u, u < 128 → (∀ s, s < 7 → u.testBit s = true → s < n) → z_pc u ≤ n := by decide +kernel
/-- the row so far, looked through for a shot -/
theorem M196_54 {m i : Nat} (hi : i ≤ 12) {s e w : Int32} : ∀ (j k : Nat), k + j = i → L196_54 (some 52) w e (nI i) s (nI k) (z_mk L Dh S R nx sl) = @ite _ (∃ l, k ≤ l ∧ l < i ∧ S 76 l = s) (Classical.propDecidable _) (some (nI i, z_mk L Dh S R nx sl)) (L196_54 (some 52) w e (nI i) s (nI i) (z_mk L Dh S R nx sl)) := by
  intro j
  induction j with
  | zero =>
    intro k hk
    have q : k = i := by omega
    subst q
    rw [if_neg (fun q => by obtain ⟨l, h1, h2, -⟩ := q; omega)]
  | succ j ih =>
    intro k hk
    have ih := ih (k + 1) (by omega)
    have h1 : z_in (nI k) 12 = true := z_in_nI (by omega) (by decide)
    have h2 : (nI k).toNatClampNeg = k := z_cl (by omega)
    rw [E196_54, if_neg (nI_ge (by omega) (by omega))]
    simp only [g_52_34, z_bs, l_76 h1, h2, nI_1]
    by_cases c : S 76 k = s
    · rw [if_neg (fun q => q c), if_pos ⟨k, by omega, by omega, c⟩]
    · rw [if_pos c, ih]
      by_cases d : ∃ l, k + 1 ≤ l ∧ l < i ∧ S 76 l = s
      · rw [if_pos d, if_pos (by obtain ⟨l, a1, a2, a3⟩ := d; exact ⟨l, by omega, a2, a3⟩)]
      · rw [if_neg d, if_neg (fun q => by
          obtain ⟨l, a1, a2, a3⟩ := q
          by_cases b : l = k
          · subst b; exact c a3
          · exact d ⟨l, by omega, a2, a3⟩)]
/-- both judge alike from the place i on -/
theorem z_jdg {S T : Nat → Nat → Int32} {n m : Nat} (hn : n ≤ 7) (hm : m ≤ 12) (h1 : S 28 6 = nI n) (h2 : T 52 28 = nI n) (h3 : S 28 13 = nI m) (hr : ∀ i, i < m → S 37 i = T 76 i)
  (hs : ∀ i, i < n → S 30 i = T 73 (i * 6 + 1) ∧ S 31 i = T 73 (i * 6 + 2) ∧ S 32 i = T 73 (i * 6 + 3) ∧ 1 ≤ (S 30 i).toInt ∧ (S 30 i).toInt ≤ 300 ∧ 0 ≤ (S 31 i).toInt ∧ (S 31 i).toInt ≤ 999 ∧ (S 32 i).toInt ≤ 999) :
  ∀ (j i u : Nat) (e : Int32), i + j = m → u < 128 → z_pc u = i → (∀ s, s < 7 → (u.testBit s = true ↔ ∃ l, l < i ∧ T 76 l = nI s)) → (∀ s, s < 7 → u.testBit s = true → s < n) → 0 ≤ e.toInt → e.toInt ≤ 999 →
  ∃ r, L24_6 (some 28) (nI u) e (nI i) (z_mk L Dh S R nx sl) = some (r, z_mk L Dh S R nx sl) ∧ L196_14 (some 52) (nI m) e (nI i) (z_mk L Dh T R nx sl) = some (r, z_mk L Dh T R nx sl) := by
  intro j
  induction j with
  | zero =>
    intro i u e hi hu hp hx hy h5 h6
    have q : i = m := by omega
    subst q
    rw [E24_6, E196_14]
    simp only [g_28_13, g_28_6, g_52_28, z_bs, h1, h2, h3, Int32.le_refl, z_iT]
    by_cases c : nI n ≤ nI i
    · rw [if_pos c, if_pos c]; exact ⟨_, rfl, rfl⟩
    · rw [if_neg c, if_neg c]; exact ⟨_, rfl, rfl⟩
  | succ j ih =>
    intro i u e hi hu hp hx hy h5 h6
    have i1 : z_in (nI i) 12 = true := z_in_nI (by omega) (by decide)
    have i2 : (nI i).toNatClampNeg = i := z_cl (by omega)
    have hle := z_us6 n (by omega) u hu hy
    rw [E24_6, E196_14]
    simp only [g_28_13, g_28_12, g_28_6, g_28_3, o_28, g_52_28, g_52_34, z_bs, h1, h2, h3, l_37 i1, l_76 i1, i2, ← hr i (by omega)]
    have nle : ¬ nI m ≤ nI i := nI_ge (by omega) (by omega)
    rw [if_neg nle, if_neg nle]
    by_cases c1 : S 37 i < 0
    · rw [if_pos c1]
      by_cases c0 : nI i = nI n
      · rw [if_pos c0]; exact ⟨_, rfl, rfl⟩
      · rw [if_neg c0, if_pos c1]; exact ⟨_, rfl, rfl⟩
    · rw [if_neg c1]
      by_cases c2 : nI n ≤ S 37 i
      · rw [if_pos c2]
        by_cases c0 : nI i = nI n
        · rw [if_pos c0]; exact ⟨_, rfl, rfl⟩
        · rw [if_neg c0, if_neg c1, if_neg (Int32.not_lt.mpr c2)]; exact ⟨_, rfl, rfl⟩
      · rw [if_neg c2]
        obtain ⟨s, hs1, hs2⟩ := z_plc (by omega) c1 c2
        have hs7 : s < 7 := by omega
        rw [hs2] at c1 c2 ⊢
        by_cases c3 : u.testBit s = true
        · rw [if_neg (fun q => by rw [z_us1 u hu s hs7] at q; rw [q] at c3; cases c3)]
          by_cases c0 : nI i = nI n
          · rw [if_pos c0]; exact ⟨_, rfl, rfl⟩
          · rw [if_neg c0, if_neg c1, if_pos (Int32.not_le.mp c2)]
            have := M196_54 (L := L) (Dh := Dh) (S := T) (R := R) (nx := nx) (sl := sl) (m := m) (i := i) (by omega) (s := nI s) (e := e) (w := nI m) i 0 (by omega)
            rw [show (0 : Int32) = nI 0 from rfl, this, if_pos]
            · exact ⟨_, rfl, rfl⟩
            · obtain ⟨l, a1, a2⟩ := (hx s hs7).mp c3
              exact ⟨l, by omega, a1, a2⟩
        · have c3' : u.testBit s = false := by revert c3; cases u.testBit s <;> simp
          have c0 : ¬ nI i = nI n := fun q => by
            have q := (nI_eq (by omega) (by omega)).mp q
            exact c3 (z_us5 n (by omega) u hu hy (by omega) s hs1)
          rw [if_pos ((z_us1 u hu s hs7).mpr c3'), if_neg c0, if_neg c1, if_pos (Int32.not_le.mp c2)]
          obtain ⟨k1, k2, k3, k4, k5, k6, k7, k8⟩ := hs s hs1
          have j1 : z_in (nI s) 7 = true := z_in_nI (by omega) (by decide)
          have j2 : (nI s).toNatClampNeg = s := z_cl (by omega)
          have := M196_54 (L := L) (Dh := Dh) (S := T) (R := R) (nx := nx) (sl := sl) (m := m) (i := i) (by omega) (s := nI s) (e := e) (w := nI m) i 0 (by omega)
          rw [show (0 : Int32) = nI 0 from rfl, this, if_neg (fun q => by
            obtain ⟨l, -, a1, a2⟩ := q
            exact c3 ((hx s hs7).mpr ⟨l, a1, a2⟩)), E196_54, if_pos (Int32.le_refl _)]
          simp only [o_52, z_bs, M20 hs7, M190 hs7, g_28_3, l_32 j1, j2, ← k1, ← k2, ← k3]
          obtain ⟨b1, b2⟩ := z_ov_b k4 k5 k6 k7 h5 h6
          by_cases c4 : z_ov (S 31 s) (S 30 s) e ≤ S 32 s
          · rw [if_pos c4]
            simp only [c4, z_iT]
            rw [if_pos (show (0 : Int32) ≤ z_ov (S 31 s) (S 30 s) e from z_le.mpr (show (0 : Int32).toInt ≤ _ from b1)), nI_1, (z_us2 u hu s hs7).1]
            refine ih (i + 1) (u ||| 1 <<< s) _ (by omega) (z_us2 u hu s hs7).2 (by rw [z_us3 u hu s hs7 c3', hp]) (fun t ht => ?_) (fun t ht => ?_) b1 (by have := z_le.mp c4; omega)
            · rw [z_us4 u hu s hs7 t ht, Bool.or_eq_true, hx t ht, decide_eq_true_iff]
              constructor
              · rintro (⟨l, a1, a2⟩ | rfl)
                · exact ⟨l, by omega, a2⟩
                · exact ⟨i, by omega, by rw [← hr i (by omega)]; exact hs2⟩
              · rintro ⟨l, a1, a2⟩
                by_cases b : l = i
                · subst b
                  rw [← hr l (by omega), hs2, nI_eq (by omega) (by omega)] at a2
                  exact Or.inr a2.symm
                · exact Or.inl ⟨l, by omega, a2⟩
            · rw [z_us4 u hu s hs7 t ht, Bool.or_eq_true, decide_eq_true_iff]
              rintro (q | rfl)
              · exact hy t ht q
              · exact hs1
          · rw [if_neg c4]
            simp only [c4, z_iF]
            rw [if_neg (by decide)]
            exact ⟨_, rfl, rfl⟩
theorem S_judge (h_I_row : I_row S) (h_I_sht : I_sht S) : z_R2 (fun h => z_cI 4 110 [.inr (.inr (some 6))] h) (fun h => z_cI 2 196 [.inr (.inr (some 52))] h) L Dh S R nx sl A_row K_row (fun S' => I_row S' ∧ S' 7 = S 7 ∧ S' 86 = S 86 ∧ ∀ k, k ≠ 13 → S' 28 k = S 28 k) := by
  obtain ⟨n, h1, h2, h3, h4⟩ := id h_I_sht
  obtain ⟨m, k1, k2, k3, k4⟩ := id h_I_row
  obtain ⟨r, e1, e2⟩ := z_jdg (L := L) (Dh := Dh) (R := R) (nx := nx) (sl := sl) (S := S) (T := z_ups (z_ups S 28 13 0) 52 35 0) h1 k1 h2 h3 k2 k4 (fun i hi => by
    obtain ⟨-, a1, a2, a3, -, -, b1, b2, b3, b4, b5, -⟩ := h4 i hi
    exact ⟨a1, a2, a3, b1, b2, b3, b4, b5⟩) m 0 0 0 (by omega) (by omega) (by decide) (fun s hs => ⟨fun q => absurd q (by rw [Nat.zero_testBit]; decide), fun q => by obtain ⟨l, a1, -⟩ := q; omega⟩) (fun s hs q => absurd q (by rw [Nat.zero_testBit]; decide)) (by decide) (by decide)
  refine ⟨r, z_ups S 28 13 0, z_ups (z_ups S 28 13 0) 52 35 0, ?_, ?_, z_fr_upm (z_fr_ups z_fr_id rfl (by decide)) rfl, ⟨0, by omega, rfl, rfl, fun i hi => by omega⟩, rfl, rfl, fun k hk => ?_⟩
  · show z_cI 4 110 _ _ = _
    rw [E110]
    simp only [g_6_5, o_28, z_bs, E24]
    have e1 : L24_6 (some 28) 0 0 0 (z_mk L Dh S R nx sl) = _ := e1
    simp only [e1, z_bs, g_6_5, p_28_13]
  · show z_cI 2 196 _ _ = _
    rw [E196]
    have k3' : z_ups S 28 13 0 52 35 = nI m := k3
    simp only [g_52_35, p_52_35, z_bs, k3']
    exact e2
  · show z_ups S 28 13 0 28 k = _
    rw [z_upsE, if_pos rfl, if_neg hk]
end ZSA
