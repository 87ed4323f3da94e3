section ZST
variable {L : Nat} {Dh : Nat → z_Sh} {S : Nat → Nat → Int32} {R : Nat → Nat → Option Nat} {nx sl : Nat}
variable {cs : List y_Cm} {ca : Nat → Nat} {a : Nat} {c : y_Cm} {ms : List y_Mv} {ad : Nat → Nat}
/-! what a camera sees -/
def y_fC (x y : Int32) : Int32 := if (0 : Int32) ≤ (x ^^^ y) then x / y else (if (x / y) * y = x then x / y else x / y - 1)
def y_fM (x y : Int32) : Int32 := if x < (0 : Int32) then -(((y - 1) - x) / y) else x / y
theorem y_dif : ∀ p, p < 20 → ∀ q, q < 20 → nI q - nI p = nI (q + 19 - p) - 19 := by decide +kernel
def y_fdk (k n i : Nat) : Bool := !(decide (i < n) && decide (1 ≤ i) && decide (k ≤ 19 + n) && decide (19 ≤ k + n)) || (decide (y_fC (2 * nI i * (nI k - 19) + nI n) (2 * nI n) = y_fM (2 * nI i * (nI k - 19) + nI n) (2 * nI n)) && ((decide (19 ≤ k) && decide (0 ≤ (y_fM (2 * nI i * (nI k - 19) + nI n) (2 * nI n)).toInt) && decide ((y_fM (2 * nI i * (nI k - 19) + nI n) (2 * nI n)).toInt ≤ (k : Int) - 19)) || (decide (k < 19) && decide ((k : Int) - 19 ≤ (y_fM (2 * nI i * (nI k - 19) + nI n) (2 * nI n)).toInt) && decide ((y_fM (2 * nI i * (nI k - 19) + nI n) (2 * nI n)).toInt ≤ 0))))
theorem y_fdk_all : ∀ k, k < 39 → ∀ n, n < 20 → ∀ i, i < 20 → y_fdk k n i = true := by decide +kernel
theorem y_fd (k : Nat) (hk : k < 39) (n : Nat) (hn : n < 20) (i : Nat) (hi : i < 20) (h1 : i < n) (h2 : 1 ≤ i) (h3 : k ≤ 19 + n ∧ 19 ≤ k + n) : y_fC (2 * nI i * (nI k - 19) + nI n) (2 * nI n) = y_fM (2 * nI i * (nI k - 19) + nI n) (2 * nI n) ∧ ((19 ≤ k ∧ 0 ≤ (y_fM (2 * nI i * (nI k - 19) + nI n) (2 * nI n)).toInt ∧ (y_fM (2 * nI i * (nI k - 19) + nI n) (2 * nI n)).toInt ≤ (k : Int) - 19) ∨ (k < 19 ∧ (k : Int) - 19 ≤ (y_fM (2 * nI i * (nI k - 19) + nI n) (2 * nI n)).toInt ∧ (y_fM (2 * nI i * (nI k - 19) + nI n) (2 * nI n)).toInt ≤ 0)) := by
  have h := y_fdk_all k hk n hn i hi
  unfold y_fdk at h
  rw [decide_eq_true h1, decide_eq_true h2, decide_eq_true h3.1, decide_eq_true h3.2, Bool.and_self, Bool.and_self, Bool.and_self, Bool.not_true, Bool.false_or, Bool.and_eq_true, Bool.or_eq_true, Bool.and_eq_true, Bool.and_eq_true, Bool.and_eq_true, Bool.and_eq_true, decide_eq_true_iff, decide_eq_true_iff, decide_eq_true_iff, decide_eq_true_iff, decide_eq_true_iff, decide_eq_true_iff, decide_eq_true_iff] at h
  obtain ⟨q1, (⟨⟨q2, q3⟩, q4⟩ | ⟨⟨q2, q3⟩, q4⟩)⟩ := h
  · exact ⟨q1, Or.inl ⟨q2, q3, q4⟩⟩
  · exact ⟨q1, Or.inr ⟨q2, q3, q4⟩⟩
/-- the coordinate at step i of n, from p to q -/
def y_ps (p q n i : Nat) : Nat := (nI p + y_fM (2 * nI i * (nI q - nI p) + nI n) (2 * nI n)).toInt.toNat
theorem y_ps_ok {p q n i : Nat} (hp : p < 20) (hq : q < 20) (hn : n < 20) (hi : i < n) (h1 : 1 ≤ i) (hd : q ≤ p + n ∧ p ≤ q + n) : y_ps p q n i < 20 ∧ nI p + y_fM (2 * nI i * (nI q - nI p) + nI n) (2 * nI n) = nI (y_ps p q n i) ∧ nI p + y_fC (2 * nI i * (nI q - nI p) + nI n) (2 * nI n) = nI (y_ps p q n i) := by
  have h := y_fd (q + 19 - p) (by omega) n hn i (by omega) hi h1 (by omega)
  unfold y_ps
  rw [y_dif p hp q hq, h.1]
  have h := h.2
  generalize y_fM (2 * nI i * (nI (q + 19 - p) - 19) + nI n) (2 * nI n) = f at *
  have hs : (nI p + f).toInt = (p : Int) + f.toInt := by
    rw [z_add (by rw [z_nI (by omega)]; omega) (by rw [z_nI (by omega)]; omega), z_nI (by omega)]
  refine ⟨by omega, ?_, ?_⟩
  · rw [z_eq, z_nI (by omega)]; omega
  · rw [z_eq, z_nI (by omega)]; omega
theorem M227 {x y : Int32} (hy : ¬ y = 0) {h : z_H} : z_cI 1 227 [.inl x, .inl y] h = some (y_fC x y, h) := by
  rw [E227, if_neg hy]
  unfold y_fC
  by_cases c1 : (0 : Int32) ≤ (x ^^^ y)
  · rw [if_pos c1, if_pos c1]
  · rw [if_neg c1, if_neg c1]
    by_cases c2 : (x / y) * y = x
    · rw [if_pos c2, if_pos c2]
    · rw [if_neg c2, if_neg c2]
theorem M162 {x y : Int32} (hy : ¬ y = 0) {h : z_H} : z_cI 1 162 [.inr (.inr (some 52)), .inl x, .inl y] h = some (y_fM x y, h) := by
  rw [E162]
  unfold y_fM
  by_cases c1 : x < (0 : Int32)
  · rw [if_pos c1, if_pos c1, if_neg hy]
  · rw [if_neg c1, if_neg c1, if_neg hy]
theorem y_2n : ∀ n, n < 20 → 1 ≤ n → ¬ (2 : Int32) * nI n = 0 := by decide +kernel
def y_opn (C : Nat → Bool) (e c n : Nat) : Nat → Nat → Bool
  | 0, _ => true
  | j + 1, i => !C (20 * y_ps (e / 20) (c / 20) n i + y_ps (e % 20) (c % 20) n i) && y_opn C e c n j (i + 1)
theorem y_opn_s (C : Nat → Bool) (e c n j i : Nat) : y_opn C e c n (j + 1) i = (!C (20 * y_ps (e / 20) (c / 20) n i + y_ps (e % 20) (c % 20) n i) && y_opn C e c n j (i + 1)) := rfl
theorem y_20 (x y : Nat) : (20 : Int32) * nI y + nI x = nI (20 * y + x) := z_pl 20 y x
theorem M3_3 {e t n : Nat} (hK : y_Kb Dh S a c) (he : c.1 = e) (he4 : e < 400) (ht : t < 400) (hn : n = y_far e t) : ∀ (j i : Nat), i + j = n → 1 ≤ i → L3_3 (some a) (nI (t % 20) - nI (e % 20)) (nI (t / 20) - nI (e / 20)) (nI n) (some 9) (nI i) (z_mk L Dh S R nx sl) = some (if y_opn (y_set (S 9)) e t n j i = true then 1 else 0, z_mk L Dh S R nx sl) := by
  have hn20 : n < 20 := by rw [hn]; exact y_far_lt he4 ht
  have hx : t % 20 ≤ e % 20 + n ∧ e % 20 ≤ t % 20 + n := by rw [hn]; unfold y_far; omega
  have hy : t / 20 ≤ e / 20 + n ∧ e / 20 ≤ t / 20 + n := by rw [hn]; unfold y_far; omega
  intro j
  induction j with
  | zero =>
    intro i hi h1
    rw [E3_3, if_pos (nI_le (by omega) (by omega))]
    rfl
  | succ j ih =>
    intro i hi h1
    have px := y_ps_ok (p := e % 20) (q := t % 20) (by omega) (by omega) hn20 (show i < n by omega) h1 hx
    have py := y_ps_ok (p := e / 20) (q := t / 20) (by omega) (by omega) hn20 (show i < n by omega) h1 hy
    have h20 : 20 * y_ps (e / 20) (t / 20) n i + y_ps (e % 20) (t % 20) n i < 400 := by have := px.1; have := py.1; omega
    have hM := M128 (L := L) (Dh := Dh) (S := S) (R := R) (nx := nx) (sl := sl) z_shS9 h20
    rw [E3_3, if_neg (nI_ge (by omega) (by omega))]
    simp only [k_g0 hK, he, z_bs, M227 (y_2n n hn20 (by omega)), (z_cd e he4).1, (z_cd e he4).2, nI_1]
    rw [← (z_cd e he4).1, (z_cd e he4).2, (z_cd e he4).1, px.2.2, py.2.2, y_20, hM, y_opn_s]
    simp only [z_bs]
    have ih := ih (i + 1) (by omega) (by omega)
    by_cases q : z_bt (S 9 ((20 * y_ps (e / 20) (t / 20) n i + y_ps (e % 20) (t % 20) n i) / 20)) ((20 * y_ps (e / 20) (t / 20) n i + y_ps (e % 20) (t % 20) n i) % 20) = true
    · have q2 : y_set (S 9) (20 * y_ps (e / 20) (t / 20) n i + y_ps (e % 20) (t % 20) n i) = true := q
      rw [if_pos q, if_neg (by decide), q2, Bool.not_true, Bool.false_and, if_neg (by decide)]
    · have q2 : y_set (S 9) (20 * y_ps (e / 20) (t / 20) n i + y_ps (e % 20) (t % 20) n i) = false := Bool.eq_false_iff.mpr q
      rw [if_neg q, if_pos rfl, q2, Bool.not_false, Bool.true_and]
      exact ih
theorem M163_3 {e t n : Nat} {C : Nat → Bool} (hC : y_bo (S 53) C) (he4 : e < 400) (ht : t < 400) (hn : n = y_far e t) : ∀ (j i : Nat), i + j = n → 1 ≤ i → L163_3 (some 52) (nI e) (nI (t % 20) - nI (e % 20)) (nI (t / 20) - nI (e / 20)) (nI n) (nI i) (z_mk L Dh S R nx sl) = some (if y_opn C e t n j i = true then 0 else 1, z_mk L Dh S R nx sl) := by
  have hn20 : n < 20 := by rw [hn]; exact y_far_lt he4 ht
  have hx : t % 20 ≤ e % 20 + n ∧ e % 20 ≤ t % 20 + n := by rw [hn]; unfold y_far; omega
  have hy : t / 20 ≤ e / 20 + n ∧ e / 20 ≤ t / 20 + n := by rw [hn]; unfold y_far; omega
  intro j
  induction j with
  | zero =>
    intro i hi h1
    rw [E163_3, if_pos (nI_le (by omega) (by omega))]
    rfl
  | succ j ih =>
    intro i hi h1
    have px := y_ps_ok (p := e % 20) (q := t % 20) (by omega) (by omega) hn20 (show i < n by omega) h1 hx
    have py := y_ps_ok (p := e / 20) (q := t / 20) (by omega) (by omega) hn20 (show i < n by omega) h1 hy
    have h20 : 20 * y_ps (e / 20) (t / 20) n i + y_ps (e % 20) (t % 20) n i < 400 := by have := px.1; have := py.1; omega
    rw [E163_3, if_neg (nI_ge (by omega) (by omega)), (z_cd e he4).2, (z_cd e he4).1]
    simp only [o_52, z_bs, M162 (y_2n n hn20 (by omega)), nI_1]
    rw [px.2.1, py.2.1, y_20, y_opn_s]
    simp only [g_52_0, z_bs, l_53 (z_in_nI h20 (by decide)), z_cl (show 20 * y_ps (e / 20) (t / 20) n i + y_ps (e % 20) (t % 20) n i < 2147483648 by omega)]
    rw [hC _ h20]
    have ih := ih (i + 1) (by omega) (by omega)
    by_cases q : C (20 * y_ps (e / 20) (t / 20) n i + y_ps (e % 20) (t % 20) n i) = true
    · rw [if_pos q, if_neg (by decide), q, Bool.not_true, Bool.false_and, if_neg (by decide)]
    · rw [if_neg q, if_pos rfl, Bool.eq_false_iff.mpr q, Bool.not_false, Bool.true_and]
      exact ih
def y_ab (x : Int32) : Int32 := if 0 ≤ x then x else -x
def y_ah (c : y_Cm) (t : Nat) : Int32 := (nI (t % 20) - nI (c.1 % 20)) * y_sx c.2.1 + (nI (t / 20) - nI (c.1 / 20)) * y_sy c.2.1
def y_ac (c : y_Cm) (t : Nat) : Int32 := y_ab ((nI (t % 20) - nI (c.1 % 20)) * y_sy c.2.1 - (nI (t / 20) - nI (c.1 / 20)) * y_sx c.2.1)
def y_vw (C : Nat → Bool) (c : y_Cm) (t : Nat) : Bool := if y_far c.1 t = 0 then false else if ¬ y_far c.1 t ≤ c.2.2.2.1 then false else if y_ah c t ≤ 0 then false else if nI c.2.2.1 * y_ah c t < 2 * y_ac c t then false else y_opn C c.1 t (y_far c.1 t) (y_far c.1 t - 1) 1
theorem M2 (hD : I_dir S) (hK : y_Kb Dh S a c) (hk : y_kok c) {t : Nat} (ht : t < 400) : z_cI 4 2 [.inr (.inr (some a)), .inl (nI t), .inr (.inr (some 9))] (z_mk L Dh S R nx sl) = some (if y_vw (y_set (S 9)) c t = true then 1 else 0, z_mk L Dh S R nx sl) := by
  obtain ⟨he, hd, hw, hr1, hr, -, -⟩ := hk
  have d1 : z_in (nI c.2.1) 8 = true := z_in_nI hd (by decide)
  have d2 : (nI c.2.1).toNatClampNeg = c.2.1 := z_cl (by omega)
  have hf := y_far_lt he ht
  rw [E2]
  simp only [k_g0 hK, z_bs, M126 he ht]
  unfold y_vw
  by_cases c1 : y_far c.1 t = 0
  · rw [if_pos (by rw [c1]; rfl), if_pos c1]
    rfl
  · rw [if_neg (nI_ne0 (by omega) (by omega)), if_neg c1]
    simp only [k_g3 hK, z_bs]
    by_cases c2 : y_far c.1 t ≤ c.2.2.2.1
    · rw [if_pos (nI_le c2 (by omega)), if_neg (show ¬ ¬ y_far c.1 t ≤ c.2.2.2.1 from fun q => q c2)]
      simp only [k_g1 hK, z_bs, l_1 d1, l_2 d1, d2, (hD _ hd).1, (hD _ hd).2]
      rw [(z_cd t ht).2, (z_cd c.1 he).2, (z_cd t ht).1, (z_cd c.1 he).1]
      show (if y_ah c t ≤ 0 then _ else _) = _
      by_cases c3 : y_ah c t ≤ 0
      · rw [if_pos c3, if_pos c3]; rfl
      · rw [if_neg c3, if_neg c3]
        simp only [M228, z_bs, k_g2 hK, k_o hK]
        show (if 2 * y_ac c t ≤ nI c.2.2.1 * y_ah c t then _ else _) = _
        by_cases c4 : nI c.2.2.1 * y_ah c t < 2 * y_ac c t
        · rw [if_neg (Int32.not_le.mpr c4), if_pos c4]; rfl
        · rw [if_pos (Int32.not_lt.mp c4), if_neg c4, E3]
          have h := M3_3 (L := L) (R := R) (nx := nx) (sl := sl) hK rfl he ht rfl (y_far c.1 t - 1) 1 (by omega) (by omega)
          rw [show (1 : Int32) = nI 1 from rfl] at *
          rw [h]
          simp only [z_bs]
          by_cases q : y_opn (y_set (S 9)) c.1 t (y_far c.1 t) (y_far c.1 t - 1) 1 = true
          · rw [if_pos q, if_pos (Or.inr rfl)]
          · rw [if_neg q, if_pos (Or.inl rfl)]
    · rw [if_neg (nI_ge (by omega) (by omega)), if_pos c2]; rfl
theorem M164 {C : Nat → Bool} {i : Nat} (hi : i < 8) (hC : y_bo (S 53) C) (hM : y_Km S i c) (hk : y_kok c) {t : Nat} (ht : t < 400) : z_cI 3 164 [.inr (.inr (some 52)), .inl (nI i), .inl (nI t)] (z_mk L Dh S R nx sl) = some (if y_vw C c t = true then 1 else 0, z_mk L Dh S R nx sl) := by
  obtain ⟨he, hd, hw, hr1, hr, -, -⟩ := hk
  have hf := y_far_lt he ht
  have e136 : ∀ x : Int32, ∀ h : z_H, z_cI 1 136 [.inr (.inr (some 52)), .inl x] h = some (y_ab x, h) := fun x h => by
    rw [E136]
    unfold y_ab
    by_cases c : 0 ≤ x
    · rw [if_pos c, if_pos c]
    · rw [if_neg c, if_neg c]
  rw [E164]
  simp only [g_52_13, k_l0 hi hM, o_52, z_bs, M137 he ht]
  unfold y_vw
  by_cases c1 : y_far c.1 t = 0
  · rw [if_pos (by rw [c1]; rfl), if_pos c1]
    rfl
  · rw [if_neg (nI_ne0 (by omega) (by omega)), if_neg c1]
    simp only [g_52_13, k_l3 hi hM, z_bs]
    by_cases c2 : y_far c.1 t ≤ c.2.2.2.1
    · rw [if_pos (nI_le c2 (by omega)), if_neg (show ¬ ¬ y_far c.1 t ≤ c.2.2.2.1 from fun q => q c2)]
      simp only [k_l1 hi hM, z_bs, M134 hd, M135 hd, e136, o_52, g_52_13]
      rw [(z_cd t ht).2, (z_cd c.1 he).2, (z_cd t ht).1, (z_cd c.1 he).1]
      show (if y_ah c t ≤ 0 then _ else _) = _
      by_cases c3 : y_ah c t ≤ 0
      · rw [if_pos c3, if_pos c3]; rfl
      · rw [if_neg c3, if_neg c3]
        simp only [k_l2 hi hM, z_bs]
        show (if nI c.2.2.1 * y_ah c t < 2 * y_ac c t then _ else _) = _
        by_cases c4 : nI c.2.2.1 * y_ah c t < 2 * y_ac c t
        · rw [if_pos c4, if_pos c4]; rfl
        · rw [if_neg c4, if_neg c4, E163]
          have h := M163_3 (L := L) (Dh := Dh) (R := R) (nx := nx) (sl := sl) hC he ht rfl (y_far c.1 t - 1) 1 (by omega) (by omega)
          have h : L163_3 (some 52) (nI c.1) (nI (t % 20) - nI (c.1 % 20)) (nI (t / 20) - nI (c.1 / 20)) (nI (y_far c.1 t)) 1 (z_mk L Dh S R nx sl) = some (if y_opn C c.1 t (y_far c.1 t) (y_far c.1 t - 1) 1 = true then 0 else 1, z_mk L Dh S R nx sl) := h
          rw [h]
          simp only [z_bs]
          by_cases q : y_opn C c.1 t (y_far c.1 t) (y_far c.1 t - 1) 1 = true
          · rw [if_pos q, if_neg (fun w => w rfl), if_pos q]
          · rw [if_neg q, if_pos (by decide), if_neg q]
    · rw [if_neg (nI_ge (by omega) (by omega)), if_pos c2]; rfl
theorem S_sees (h_I_ref : I_ref S) (hD : I_dir S) (hcov : I_cov S) (J : J_cam cs ca Dh S R nx) (x y : Int32) : z_R2 (fun h => z_cI 5 94 [.inr (.inr (some 6)), .inl x, .inl y] h) (fun h => z_cI 4 165 [.inr (.inr (some 52)), .inl x, .inl y] h) L Dh S R nx sl A_0 K_0 (fun S' => I_ref S') := by
  have h8 := J.1
  by_cases d1 : x < 0 ∨ nI cs.length ≤ x
  · refine z_R2_no z_code1 rfl rfl h_I_ref ?_ ?_ (z_no_ref h_I_ref z_code1)
    · show z_cI 5 94 _ _ = _
      rw [E94]
      simp only [g_6_2, o_16, M14x J d1, z_bs, z_nulN, z_tt, z_iT, o_6, M122 z_code1]
    · show z_cI 4 165 _ _ = _
      rw [E165]
      simp only [o_52, z_bs, g_52_12, show z_no 7 S (-1) 52 12 = nI cs.length from J.2.2.1, M131 z_code1]
      by_cases q : x < 0
      · rw [if_pos q]
      · rw [if_neg q, if_pos (d1.resolve_left q)]
  · obtain ⟨i, hi, rfl⟩ := z_plc (by omega) (fun q => d1 (Or.inl q)) (fun q => d1 (Or.inr q))
    obtain ⟨k1, k2, k3, k4, k5⟩ := J.2.2.2 i hi
    have h87 := k4.1
    have n1 : ¬ nI i < 0 := fun q => d1 (Or.inl q)
    have n2 : ¬ nI cs.length ≤ nI i := fun q => d1 (Or.inr q)
    by_cases d2 : y < 0 ∨ 400 ≤ y
    · refine z_R2_no z_code1 rfl rfl h_I_ref ?_ ?_ (z_no_ref h_I_ref z_code1)
      · show z_cI 5 94 _ _ = _
        rw [E94]
        simp only [g_6_2, o_16, M14n J hi, z_bs, z_nulS (show 6 ≤ ca i by omega), z_ff, z_iF, M123, d2, z_iT, z_e00, not_true, o_6, M122 z_code1]
      · show z_cI 4 165 _ _ = _
        rw [E165]
        simp only [o_52, z_bs, g_52_12, show z_no 7 S (-1) 52 12 = nI cs.length from J.2.2.1, n1, n2, z_iF, M132, d2, z_iT, z_e00, not_true, M131 z_code1]
    · obtain ⟨t, ht, rfl⟩ := z_plc (n := 400) (by omega) (fun q => d2 (Or.inl q)) (fun q => d2 (Or.inr q))
      refine z_R2_q (r := if y_vw (y_set (S 9)) cs[i] t = true then 1 else 0) ?_ ?_ h_I_ref
      · show z_cI 5 94 _ _ = _
        rw [E94]
        simp only [g_6_2, o_16, M14n J hi, z_bs, z_nulS (show 6 ≤ ca i by omega), z_ff, z_iF, M123, d2, z_10, not_false_eq_true, z_iT, g_6_1, g_8_0, k_o k4, M2 hD k4 k3 ht]
        by_cases q : y_vw (y_set (S 9)) cs[i] t = true
        · rw [if_pos q, if_neg (by decide)]
        · rw [if_neg q, if_pos rfl]
      · show z_cI 4 165 _ _ = _
        rw [E165]
        simp only [o_52, z_bs, g_52_12, J.2.2.1, n1, n2, z_iF, M132, d2, z_10, not_false_eq_true, z_iT, M164 (show i < 8 by omega) (y_set_b hcov) k5 k3 ht]
        by_cases q : y_vw (y_set (S 9)) cs[i] t = true
        · rw [if_pos q, if_neg (by decide)]
        · rw [if_neg q, if_pos rfl]
/-! pictures -/
def y_pc (C : Nat → Bool) (c : y_Cm) (t : Nat) : List y_Mv → Nat → Int32 → Int32
  | [], _, v => v
  | m :: r, i, v => y_pc C c t r (i + 1) (if y_vw C c (y_P m t) = true then v ||| ((1 : Int32) <<< (nI i &&& 31)) else v)
theorem y_pc_s (C : Nat → Bool) (c : y_Cm) (t : Nat) (m : y_Mv) (r : List y_Mv) (i : Nat) (v : Int32) : y_pc C c t (m :: r) i v = y_pc C c t r (i + 1) (if y_vw C c (y_P m t) = true then v ||| ((1 : Int32) <<< (nI i &&& 31)) else v) := rfl
theorem M4_15 (hD : I_dir S) (hK : y_Kb Dh S a c) (hk : y_kok c) (J : J_mov ms ad Dh S R nx) {t : Nat} (ht : t ≤ 600) : ∀ (r : List y_Mv) (i : Nat) (v : Int32), ms.drop i = r → i ≤ ms.length → L4_15 (some a) (some 8) (nI t) v (nI i) (z_mk L Dh S R nx sl) = some (y_pc (y_set (S 9)) c t r i v, z_mk L Dh S R nx sl) := by
  have h12 := J.1
  intro r
  induction r with
  | nil =>
    intro i v hr hi
    have hk : ms.length ≤ i := List.drop_eq_nil_iff.mp hr
    rw [E4_15]
    simp only [g_8_3, z_bs, J.2.1]
    rw [if_pos (nI_le hk (by omega))]
    rfl
  | cons m r ih =>
    intro i v hr hi
    obtain ⟨hil, hg, hd⟩ := y_drop_cons hr
    obtain ⟨a1, a2, a3, a4, a5⟩ := J.2.2.2.1 i hil
    rw [hg] at a3 a4 a5
    rw [E4_15, y_pc_s]
    simp only [g_8_3, g_8_2, z_bs, J.2.1]
    rw [if_neg (nI_ge hil (by omega)), l_11 (z_in_nI (show i < 12 by omega) (by decide)), z_cl (show i < 2147483648 by omega), a1]
    simp only [z_bs, y_ob a4.1, M29n a4 ht, g_8_0, k_o hK, M2 hD hK hk (y_P_lt a3 t), nI_1]
    by_cases q : y_vw (y_set (S 9)) c (y_P m t) = true
    · rw [if_pos q, if_neg (by decide), if_pos q]
      exact ih (i + 1) _ hd (by omega)
    · rw [if_neg q, if_pos rfl, if_neg q]
      exact ih (i + 1) _ hd (by omega)
theorem M169_80 {C : Nat → Bool} {k : Nat} (hk8 : k < 8) (hC : y_bo (S 53) C) (hM : y_Km S k c) (hk : y_kok c) (J : J_mov ms ad Dh S R nx) {t : Nat} (ht : t ≤ 600) : ∀ (r : List y_Mv) (i : Nat) (v : Int32), ms.drop i = r → i ≤ ms.length → L169_80 (some 52) (nI k) (nI t) v (nI i) (z_mk L Dh S R nx sl) = some (y_pc C c t r i v, z_mk L Dh S R nx sl) := by
  have h12 := J.1
  intro r
  induction r with
  | nil =>
    intro i v hr hi
    have hk : ms.length ≤ i := List.drop_eq_nil_iff.mp hr
    rw [E169_80]
    simp only [g_52_2, z_bs, J.2.2.1]
    rw [if_pos (nI_le hk (by omega))]
    rfl
  | cons m r ih =>
    intro i v hr hi
    obtain ⟨hil, hg, hd⟩ := y_drop_cons hr
    obtain ⟨a1, a2, a3, a4, a5⟩ := J.2.2.2.1 i hil
    rw [hg] at a3 a4 a5
    have h144 : z_cI 3 144 [.inr (.inr (some 52)), .inl (nI i), .inl (nI t), .inl (0 : Int32)] (z_mk L Dh S R nx sl) = some (nI (y_P m t), z_mk L Dh S R nx sl) := M144 (l := 0) (show i < 12 by omega) a3 a5 ht (by omega)
    rw [E169_80, y_pc_s]
    simp only [g_52_2, z_bs, J.2.2.1]
    rw [if_neg (nI_ge hil (by omega))]
    simp only [z_bs, o_52, h144, M164 hk8 hC hM hk (y_P_lt a3 t), nI_1]
    by_cases q : y_vw C c (y_P m t) = true
    · rw [if_pos q, if_neg (by decide), if_pos q]
      exact ih (i + 1) _ hd (by omega)
    · rw [if_neg q, if_pos rfl, if_neg q]
      exact ih (i + 1) _ hd (by omega)
theorem S_picture (h_I_ref : I_ref S) (hD : I_dir S) (hcov : I_cov S) (J : J_cam cs ca Dh S R nx) (Jm : J_mov ms ad Dh S R nx) (x t : Int32) : z_R2 (fun h => z_cI 6 96 [.inr (.inr (some 6)), .inl x, .inl t] h) (fun h => z_cI 4 169 [.inr (.inr (some 52)), .inl x, .inl t] h) L Dh S R nx sl A_0 K_0 (fun S' => I_ref S') := by
  have h8 := J.1
  by_cases d1 : x < 0 ∨ nI cs.length ≤ x
  · refine z_R2_no z_code1 rfl rfl h_I_ref ?_ ?_ (z_no_ref h_I_ref z_code1)
    · show z_cI 6 96 _ _ = _
      rw [E96]
      simp only [g_6_2, o_16, M14x J d1, z_bs, z_nulN, z_tt, z_iT, o_6, M122 z_code1]
    · show z_cI 4 169 _ _ = _
      rw [E169]
      simp only [o_52, z_bs, g_52_12, show z_no 7 S (-1) 52 12 = nI cs.length from J.2.2.1, M131 z_code1]
      by_cases q : x < 0
      · rw [if_pos q]
      · rw [if_neg q, if_neg (Int32.not_lt.mpr (d1.resolve_left q))]
  · obtain ⟨i, hi, rfl⟩ := z_plc (by omega) (fun q => d1 (Or.inl q)) (fun q => d1 (Or.inr q))
    obtain ⟨k1, k2, k3, k4, k5⟩ := J.2.2.2 i hi
    have h87 := k4.1
    have n1 : ¬ nI i < 0 := fun q => d1 (Or.inl q)
    have n2 : nI i < nI cs.length := Int32.not_le.mp (fun q => d1 (Or.inr q))
    by_cases c1 : t < 0
    · refine z_R2_no z_code4 rfl rfl h_I_ref ?_ ?_ (z_no_ref h_I_ref z_code4)
      · show z_cI 6 96 _ _ = _
        rw [E96]
        simp only [M122 z_code4, z_bs, g_6_2, o_16, M14n J hi, z_nulS (show 6 ≤ ca i by omega), z_ff, o_6, c1, Int32.not_le.mpr c1, true_or, or_true, or_self, false_or, or_false, not_true, not_false_eq_true, Classical.not_not, z_10, z_iT, z_iF]
      · show z_cI 4 169 _ _ = _
        rw [E169]
        simp only [M131 z_code4, z_bs, o_52, g_52_12, show (z_no 7 S (-4)) 52 12 = nI cs.length from J.2.2.1, n1, n2, c1, Int32.not_le.mpr c1, true_or, or_true, or_self, false_or, or_false, not_true, not_false_eq_true, Classical.not_not, z_10, z_iT, z_iF]
    · skip
      by_cases c2 : 600 < t
      · refine z_R2_no z_code6 rfl rfl h_I_ref ?_ ?_ (z_no_ref h_I_ref z_code6)
        · show z_cI 6 96 _ _ = _
          rw [E96]
          simp only [M122 z_code6, z_bs, g_6_2, o_16, M14n J hi, z_nulS (show 6 ≤ ca i by omega), z_ff, o_6, c1, Int32.not_lt.mp c1, c2, Int32.not_le.mpr c2, true_or, or_true, or_self, false_or, or_false, not_true, not_false_eq_true, Classical.not_not, z_10, z_iT, z_iF]
        · show z_cI 4 169 _ _ = _
          rw [E169]
          simp only [M131 z_code6, z_bs, o_52, g_52_12, show (z_no 7 S (-6)) 52 12 = nI cs.length from J.2.2.1, n1, n2, c1, Int32.not_lt.mp c1, c2, Int32.not_le.mpr c2, true_or, or_true, or_self, false_or, or_false, not_true, not_false_eq_true, Classical.not_not, z_10, z_iT, z_iF]
      · skip
        obtain ⟨tt, htt, rfl⟩ := nI_of2 (n := 600) rfl c1 (Int32.not_lt.mp c2)
        obtain ⟨w1, w2, w3, w4, w5, w6, w7⟩ := id k3
        refine z_R2_q (r := if nI tt < nI (cs[i]).2.2.2.2.1 then 0 else if nI (cs[i]).2.2.2.2.2 < nI tt then 0 else y_pc (y_set (S 9)) cs[i] tt ms 0 0) ?_ ?_ h_I_ref
        · show z_cI 6 96 _ _ = _
          rw [E96]
          simp only [g_6_2, o_16, M14n J hi, z_nulS (show 6 ≤ ca i by omega), z_ff, o_6, z_bs, c1, Int32.not_lt.mp c1, c2, Int32.not_lt.mp c2, true_or, or_true, or_self, false_or, or_false, not_true, not_false_eq_true, Classical.not_not, z_10, z_iT, z_iF, g_6_1, k_o k4]
          rw [E4, E1]
          simp only [k_o k4, k_g4 k4, k_g5 k4, z_bs]
          by_cases q1 : nI tt < nI (cs[i]).2.2.2.2.1
          · simp only [q1, z_iT, z_bs, z_e00, not_true, z_iF]
          · by_cases q2 : nI (cs[i]).2.2.2.2.2 < nI tt
            · simp only [q1, q2, z_iT, z_iF, z_bs, z_e00, not_true]
            · have h := M4_15 (L := L) (sl := sl) hD k4 k3 Jm htt ms 0 0 rfl (by omega)
              have h : L4_15 (some (ca i)) (some 8) (nI tt) 0 0 (z_mk L Dh S R nx sl) = some (y_pc (y_set (S 9)) cs[i] tt ms 0 0, z_mk L Dh S R nx sl) := h
              simp only [q1, q2, z_iF, z_bs, z_10, not_false_eq_true, z_iT, h]
        · show z_cI 4 169 _ _ = _
          rw [E169]
          simp only [o_52, g_52_12, show S 52 12 = nI cs.length from J.2.2.1, n1, n2, z_bs, c1, Int32.not_lt.mp c1, c2, Int32.not_lt.mp c2, true_or, or_true, or_self, false_or, or_false, not_true, not_false_eq_true, Classical.not_not, z_10, z_iT, z_iF, g_52_13, k_l4 (show i < 8 by omega) k5, k_l5 (show i < 8 by omega) k5]
          by_cases q1 : nI tt < nI (cs[i]).2.2.2.2.1
          · simp only [q1, z_iT]
          · by_cases q2 : nI (cs[i]).2.2.2.2.2 < nI tt
            · simp only [q1, q2, Int32.not_le.mpr q2, z_iT, z_iF]
            · have h := M169_80 (L := L) (sl := sl) (show i < 8 by omega) (y_set_b hcov) k5 k3 Jm htt ms 0 0 rfl (by omega)
              have h : L169_80 (some 52) (nI i) (nI tt) 0 0 (z_mk L Dh S R nx sl) = some (y_pc (y_set (S 9)) cs[i] tt ms 0 0, z_mk L Dh S R nx sl) := h
              simp only [q1, q2, Int32.not_lt.mp q2, z_iF, z_iT, h]
end ZST
