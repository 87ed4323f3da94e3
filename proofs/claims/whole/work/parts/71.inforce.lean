section ZTF
variable {L : Nat} {Dh : Nat → z_Sh} {S : Nat → Nat → Int32} {R : Nat → Nat → Option Nat} {nx sl : Nat}
variable {f g : Nat → Int32} {n : Nat}
/-! texts in force -/
theorem y_ftI_inj {p q : Option Nat} (hp : ∀ x, p = some x → x ≤ 60) (hq : ∀ x, q = some x → x ≤ 60) (h : y_ftI p = y_ftI q) : p = q := by
  cases p with
  | none =>
    cases q with
    | none => rfl
    | some y => exact absurd (show (-1 : Int32) = nI y from h).symm (y_nm1 (by have := hq y rfl; omega))
  | some x =>
    cases q with
    | none => exact absurd (show nI x = (-1 : Int32) from h) (y_nm1 (by have := hp x rfl; omega))
    | some y =>
      have := (nI_eq (by have := hp x rfl; omega) (by have := hq y rfl; omega)).mp (show nI x = nI y from h)
      rw [this]
/-- faults don't hang on values, nor on what lies behind the text -/
theorem y_flt_c {v w : Nat → Int32} (hn : n ≤ 60) (h : ∀ i, i < n → f i = g i) : y_flt f n v = y_flt g n w := by
  have m1 : y_mt (fun b i => if b = 65 then f i else if b = 52 then nI n else 0) f n := ⟨rfl, hn, fun i _ => rfl⟩
  have m2 : y_mt (fun b i => if b = 65 then f i else if b = 52 then nI n else 0) g n := ⟨rfl, hn, fun i hi => h i hi⟩
  obtain ⟨S1, e1, -⟩ := M174 (L := 0) (Dh := fun _ => .inl (0, 0)) (R := fun _ _ => none) (nx := 0) (sl := 0) m1 v
  obtain ⟨S2, e2, -⟩ := M174 (L := 0) (Dh := fun _ => .inl (0, 0)) (R := fun _ _ => none) (nx := 0) (sl := 0) m2 w
  have := e1.symm.trans e2
  have := congrArg Prod.fst (Option.some.inj this)
  exact y_ftI_inj (fun x hx => by have := y_flt_le hx; omega) (fun x hx => by have := y_flt_le hx; omega) this
def J_tx1 (Dh : Nat → z_Sh) (S : Nat → Nat → Int32) (R : Nat → Nat → Option Nat) (nx c o n : Nat) : Prop := R 21 c = some o ∧ 87 ≤ o ∧ o + 2 ≤ nx ∧ Dh o = .inr (.inr (9, [2, 0, 0, 0, 2])) ∧ Dh (o + 1) = .inl (2, 60) ∧ R o 0 = some (o + 1) ∧ 1 ≤ n ∧ n ≤ 60 ∧ S o 1 = nI n ∧ S 67 c = nI n ∧ (∀ i, i < n → S (o + 1) i = S 66 (c * 61 + i) ∧ -128 ≤ (S (o + 1) i).toInt ∧ (S (o + 1) i).toInt ≤ 127) ∧ S 66 (c * 61 + n) = 0 ∧ ∀ val, y_flt (S (o + 1)) n val = none
def J_txc (Dh : Nat → z_Sh) (S : Nat → Nat → Int32) (R : Nat → Nat → Option Nat) (nx c : Nat) : Option (Nat × Nat) → Prop
  | none => R 21 c = none ∧ S 67 c = 0
  | some p => J_tx1 Dh S R nx c p.1 p.2
def J_txt (tx : Nat → Option (Nat × Nat)) (Dh : Nat → z_Sh) (S : Nat → Nat → Int32) (R : Nat → Nat → Option Nat) (nx : Nat) : Prop := (∀ c, c < 6 → J_txc Dh S R nx c (tx c)) ∧ (∀ c d p q, c < 6 → d < 6 → c ≠ d → tx c = some p → tx d = some q → p.1 + 2 ≤ q.1 ∨ q.1 + 2 ≤ p.1) ∧ ∃ k, k ≤ 40 ∧ S 18 2 = nI k ∧ S 52 15 = nI k
/-- cells of a text -/
def y_nt (Dh : Nat → z_Sh) (b : Nat) : Prop := Dh b ≠ .inr (.inr (9, [2, 0, 0, 0, 2])) ∧ Dh b ≠ .inl (2, 60)
theorem J_txc_fr {D' : Nat → z_Sh} {S' : Nat → Nat → Int32} {R' : Nat → Nat → Option Nat} {nx' c : Nat} : ∀ {t : Option (Nat × Nat)}, J_txc Dh S R nx c t → R' 21 c = R 21 c → S' 67 c = S 67 c → (∀ i, i < 61 → S' 66 (c * 61 + i) = S 66 (c * 61 + i)) → nx ≤ nx' → (∀ p, t = some p → D' p.1 = Dh p.1 ∧ D' (p.1 + 1) = Dh (p.1 + 1) ∧ S' p.1 1 = S p.1 1 ∧ S' (p.1 + 1) = S (p.1 + 1) ∧ R' p.1 0 = R p.1 0) → J_txc D' S' R' nx' c t
  | none, h, h1, h2, h3, hn, h5 => ⟨h1.trans h.1, h2.trans h.2⟩
  | some p, h, h1, h2, h3, hn, h5 => by
    obtain ⟨a1, a2, a3, a4, a5, a6, a7, a8, a9, a10, a11, a12, a13⟩ := h
    obtain ⟨b1, b2, b3, b4, b5⟩ := h5 p rfl
    refine ⟨h1.trans a1, a2, by omega, b1.trans a4, b2.trans a5, b5.trans a6, a7, a8, b3.trans a9, h2.trans a10, fun i hi => ?_, ?_, fun val => ?_⟩
    · rw [b4, h3 i (by omega)]; exact a11 i hi
    · rw [h3 p.2 (by omega)]; exact a12
    · rw [b4]; exact a13 val
theorem y_tnm {b : Nat} (h : Dh b = .inr (.inr (9, [2, 0, 0, 0, 2])) ∨ Dh b = .inl (2, 60)) : y_nm Dh b ∧ Dh b ≠ .inr (.inr (0, [0, 0, 0, 0, 0, 0])) := by
  unfold y_nm
  rcases h with h | h
  · rw [h]
    refine ⟨⟨fun q => ?_, fun q => ?_, fun q => ?_⟩, fun q => ?_⟩
    · exact absurd (congrArg Prod.fst (Sum.inr.inj (Sum.inr.inj q))) (by decide)
    · cases q
    · cases q
    · exact absurd (congrArg Prod.fst (Sum.inr.inj (Sum.inr.inj q))) (by decide)
  · rw [h]
    refine ⟨⟨fun q => ?_, fun q => ?_, fun q => ?_⟩, fun q => ?_⟩
    · cases q
    · exact absurd (congrArg Prod.fst (Sum.inl.inj q)) (by decide)
    · exact absurd (congrArg Prod.fst (Sum.inl.inj q)) (by decide)
    · cases q
/-- the class copies a text -/
theorem y_i8 {b : Int32} (h1 : -128 ≤ b.toInt) (h2 : b.toInt ≤ 127) : b.toInt8.toInt32 = b := by
  have key : ∀ k, k < 256 → (nI k - 128).toInt8.toInt32 = nI k - 128 := by decide +kernel
  obtain ⟨k, hk, rfl⟩ := y_bytk h1 h2
  exact key k hk
def y_To (Dh : Nat → z_Sh) (R : Nat → Nat → Option Nat) (o : Nat) : Prop := 87 ≤ o ∧ Dh o = .inr (.inr (9, [2, 0, 0, 0, 2])) ∧ Dh (o + 1) = .inl (2, 60) ∧ R o 0 = some (o + 1)
theorem M70_2 {o : Nat} (hO : y_To Dh R o) (hn : n ≤ 60) (h19 : S 19 1 = nI n) (hb : ∀ i, i < n → -128 ≤ (S 20 i).toInt ∧ (S 20 i).toInt ≤ 127) : ∀ (j i : Nat), i + j = n → L70_2 (some o) (some 19) (nI i) (z_mk L Dh (y_fl S (o + 1) i (S 20)) R nx sl) = some (z_mk L Dh (z_ups (y_fl S (o + 1) n (S 20)) o 1 (nI n)) R nx sl) := by
  obtain ⟨o1, o2, o3, o4⟩ := hO
  have n19 : ∀ i, y_fl S (o + 1) i (S 20) 19 = S 19 := fun i => y_fl_ne (by omega)
  have n20 : ∀ i, y_fl S (o + 1) i (S 20) 20 = S 20 := fun i => y_fl_ne (by omega)
  intro j
  induction j with
  | zero =>
    intro i hi
    obtain rfl : i = n := by omega
    rw [E70_2]
    simp only [g_19_1, z_bs, n19, h19]
    rw [if_pos (nI_le (Nat.le_refl _) (by omega)), m_pI ((y_shp o1).trans o2) rfl (by decide) (Or.inl rfl)]
    rfl
  | succ j ih =>
    intro i hi
    have i1 : z_in (nI i) 60 = true := z_in_nI (by omega) (by decide)
    have i2 : (nI i).toNatClampNeg = i := z_cl (by omega)
    have hbi := hb i (by omega)
    rw [E70_2]
    simp only [g_19_1, g_19_0, z_bs, n19, h19]
    rw [if_neg (nI_ge (by omega) (by omega)), m_gR ((y_shp o1).trans o2) rfl, o4]
    simp only [z_bs]
    rw [l_20 i1, i2, n20]
    simp only [z_bs]
    rw [m_stB ((y_shp (by omega)).trans o3) i1, i2, y_i8 hbi.1 hbi.2, y_fl_s]
    simp only [z_bs, nI_1]
    exact ih (i + 1) (by omega)
theorem M39_64 {o c k : Nat} (hc : c < 6) (hO : y_To Dh R o) (hR : R 21 c = some o) (hn : n ≤ 60) (hk : k < 1000) (h19 : S 19 1 = nI n) (h18 : S 18 2 = nI k) (hb : ∀ i, i < n → -128 ≤ (S 20 i).toInt ∧ (S 20 i).toInt ≤ 127) : L39_64 (some 18) (nI c) (z_mk L Dh S R nx sl) = some (nI (k + 1), z_mk L Dh (z_ups (z_ups (z_ups (y_fl S (o + 1) n (S 20)) o 1 (nI n)) 19 1 0) 18 2 (nI (k + 1))) R nx sl) := by
  have h70 := M70_2 (L := L) (nx := nx) (sl := sl) hO hn h19 hb n 0 (by omega)
  rw [y_fl_0] at h70
  have o1 := hO.1
  have e18 : ∀ x, z_ups (z_ups (y_fl S (o + 1) n (S 20)) o 1 (nI n)) 19 1 x 18 2 = nI k := fun x => by rw [z_ups_ne (by decide), z_ups_ne (by omega), y_fl_ne (by omega)]; exact h18
  rw [E39_64]
  simp only [g_18_1, g_18_0, z_bs, l_21 (z_in_nI hc (by decide)), z_cl (show c < 2147483648 by omega), hR, m_ob ((y_shp o1).trans hO.2.1)]
  rw [E70]
  show ((L70_2 (some o) (some 19) (nI 0) (z_mk L Dh S R nx sl)).bind _) = _
  rw [h70]
  simp only [z_bs, g_18_0, p_19_1, g_18_2, e18, p_18_2, nI_1, z_upsS]
/-- the model copies a text -/
theorem y_61 (c i : Nat) : nI c * 61 + nI i = nI (c * 61 + i) := z_pl c 61 i
theorem M175_58 {c k : Nat} (hc : c < 6) (hn : n ≤ 60) (hk : k < 1000) (h15 : S 52 15 = nI k) (hb : ∀ i, i < n → -128 ≤ (S 65 i).toInt ∧ (S 65 i).toInt ≤ 127) : ∀ (j i : Nat) (T : Nat → Nat → Int32), i + j = n → (∀ b, b ≠ 66 → T b = S b) → (∀ q, q < i → T 66 (c * 61 + q) = S 65 q) → (∀ q, (q < c * 61 ∨ c * 61 + 61 ≤ q) → T 66 q = S 66 q) → ∃ T', L175_58 (some 52) (nI c) (nI n) (nI i) (z_mk L Dh T R nx sl) = some (nI (k + 1), z_mk L Dh T' R nx sl) ∧ (∀ b, b ≠ 66 → b ≠ 67 → b ≠ 52 → T' b = S b) ∧ (∀ q, T' 67 q = if q = c then nI n else S 67 q) ∧ (∀ q, q ≠ 15 → T' 52 q = S 52 q) ∧ T' 52 15 = nI (k + 1) ∧ (∀ q, q < n → T' 66 (c * 61 + q) = S 65 q) ∧ T' 66 (c * 61 + n) = 0 ∧ (∀ q, (q < c * 61 ∨ c * 61 + 61 ≤ q) → T' 66 q = S 66 q) := by
  have c1 : z_in (nI c) 6 = true := z_in_nI hc (by decide)
  have c2 : (nI c).toNatClampNeg = c := z_cl (by omega)
  have z8 : (0 : Int32).toInt8.toInt32 = 0 := by decide
  intro j
  induction j with
  | zero =>
    intro i T hi hT h66 hoth
    obtain rfl : i = n := by omega
    have q1 : z_in (nI (c * 61 + i)) 366 = true := z_in_nI (by omega) (by decide)
    have q2 : (nI (c * 61 + i)).toNatClampNeg = c * 61 + i := z_cl (by omega)
    have e15 : z_ups (z_ups T 66 (c * 61 + i) 0) 67 c (nI i) 52 15 = nI k := by rw [z_ups_ne (by decide), z_ups_ne (by decide), hT 52 (by decide)]; exact h15
    refine ⟨z_ups (z_ups (z_ups T 66 (c * 61 + i) 0) 67 c (nI i)) 52 15 (nI (k + 1)), ?_, fun b x y z => by rw [z_ups_ne z, z_ups_ne y, z_ups_ne x, hT b x], fun q => by rw [z_ups_ne (by decide), z_upsE, if_pos rfl, z_ups_ne (by decide), hT 67 (by decide)], fun q hq => by rw [z_upsK hq, z_ups_ne (by decide), z_ups_ne (by decide), hT 52 (by decide)], by rw [z_upsS], fun q hq => ?_, ?_, fun q hq => ?_⟩
    · rw [E175_58, if_pos (nI_le (Nat.le_refl _) (by omega)), y_61]
      simp only [g_52_19, g_52_20, z_bs, s_66 q1, q2, z8, s_67 c1, c2, g_52_15, e15, p_52_15, nI_1, z_upsS]
    · rw [z_ups_ne (by decide), z_ups_ne (by decide), z_upsK (by omega)]; exact h66 q hq
    · rw [z_ups_ne (by decide), z_ups_ne (by decide), z_upsS]
    · rw [z_ups_ne (by decide), z_ups_ne (by decide), z_upsK (by omega)]; exact hoth q hq
  | succ j ih =>
    intro i T hi hT h66 hoth
    have q1 : z_in (nI (c * 61 + i)) 366 = true := z_in_nI (by omega) (by decide)
    have q2 : (nI (c * 61 + i)).toNatClampNeg = c * 61 + i := z_cl (by omega)
    have hbi := hb i (by omega)
    obtain ⟨T', e1, e2, e3, e4, e5, e6, e7, e8⟩ := ih (i + 1) (z_ups T 66 (c * 61 + i) (S 65 i)) (by omega) (fun b hb => by rw [z_ups_ne hb, hT b hb]) (fun q hq => by
      by_cases w : q = i
      · rw [w, z_upsS]
      · rw [z_upsK (by omega)]; exact h66 q (by omega)) (fun q hq => by rw [z_upsK (by omega)]; exact hoth q hq)
    refine ⟨T', ?_, e2, e3, e4, e5, e6, e7, e8⟩
    rw [E175_58, if_neg (nI_ge (by omega) (by omega)), y_61]
    simp only [g_52_19, g_52_17, z_bs, l_65 (z_in_nI (show i < 60 by omega) (by decide)), z_cl (show i < 2147483648 by omega), hT 65 (by decide), s_66 q1, q2, y_i8 hbi.1 hbi.2, nI_1]
    exact e1
end ZTF
