section ZSO
variable {L : Nat} {Dh : Nat → z_Sh} {S : Nat → Nat → Int32} {R : Nat → Nat → Option Nat} {nx sl : Nat}
variable {ms : List y_Mv} {ad : Nat → Nat}
/-! sets of cells: rows of bits in the class, booleans in the model -/
def y_rows (f : Nat → Int32) (H : Nat → Bool) : Prop := (∀ c, c < 400 → z_bt (f (c / 20)) (c % 20) = H c) ∧ ∀ y j, y < 20 → 20 ≤ j → z_bt (f y) j = false
def y_bo (f : Nat → Int32) (H : Nat → Bool) : Prop := ∀ c, c < 400 → f c = if H c = true then 1 else 0
theorem y_rows_at {f : Nat → Int32} {H : Nat → Bool} (h : y_rows f H) {x y : Nat} (hx : x < 20) (hy : y < 20) : z_bt (f y) x = H (20 * y + x) := by
  have := h.1 (20 * y + x) (by omega)
  rw [show (20 * y + x) / 20 = y by omega, show (20 * y + x) % 20 = x by omega] at this
  exact this
theorem y_rows_mk {f : Nat → Int32} {H : Nat → Bool} (h1 : ∀ x y, x < 20 → y < 20 → z_bt (f y) x = H (20 * y + x)) (h2 : ∀ y j, y < 20 → 20 ≤ j → j < 32 → z_bt (f y) j = false) : y_rows f H := by
  refine ⟨fun c hc => ?_, fun y j hy hj => ?_⟩
  · have := h1 (c % 20) (c / 20) (by omega) (by omega)
    rw [show 20 * (c / 20) + c % 20 = c by omega] at this
    exact this
  · by_cases q : j < 32
    · exact h2 y j hy hj q
    · exact z_bt_ge (by omega)
theorem y_rows_congr {f : Nat → Int32} {H G : Nat → Bool} (h : y_rows f H) (e : ∀ c, c < 400 → G c = H c) : y_rows f G := ⟨fun c hc => by rw [e c hc]; exact h.1 c hc, h.2⟩
def y_an (f : Nat → Bool) (n : Nat) : Bool := (List.range n).any f
theorem y_an_iff {f : Nat → Bool} {n : Nat} : y_an f n = true ↔ ∃ c, c < n ∧ f c = true := by
  unfold y_an
  rw [List.any_eq_true]
  constructor
  · rintro ⟨c, h1, h2⟩; exact ⟨c, List.mem_range.mp h1, h2⟩
  · rintro ⟨c, h1, h2⟩; exact ⟨c, List.mem_range.mpr h1, h2⟩
theorem y_an_s (f : Nat → Bool) (n : Nat) : y_an f (n + 1) = (y_an f n || f n) := by
  rw [Bool.eq_iff_iff, Bool.or_eq_true, y_an_iff, y_an_iff]
  constructor
  · rintro ⟨c, h1, h2⟩
    by_cases q : c = n
    · right; rw [← q]; exact h2
    · left; exact ⟨c, by omega, h2⟩
  · rintro (⟨c, h1, h2⟩ | h)
    · exact ⟨c, by omega, h2⟩
    · exact ⟨n, by omega, h⟩
/-- a row is 0 only without bits -/
theorem y_row0 {f : Nat → Int32} {H : Nat → Bool} (h : y_rows f H) {y : Nat} (hy : y < 20) : f y = 0 ↔ ∀ x, x < 20 → H (20 * y + x) = false := by
  constructor
  · intro e x hx
    rw [← y_rows_at h hx hy, e, z_bt_0]
  · intro e
    apply z_bt_ext
    intro j hj
    rw [z_bt_0]
    by_cases q : j < 20
    · rw [y_rows_at h q hy]; exact e j q
    · exact h.2 y j hy (by omega)
/-! the class's square -/
theorem y_sq1 : ∀ x, x < 20 → ∀ n, n < 7 → (if (0 : Int32) < nI x - nI n then nI x - nI n else 0) = nI (x - n) ∧ (if nI x + nI n < (19 : Int32) then nI x + nI n else 19) = nI (min 19 (x + n)) := by decide +kernel
def y_bw (l r : Nat) : Int32 := (((1 : Int32) <<< (((nI r - nI l) + (1 : Int32)) &&& 31)) - (1 : Int32)) <<< (nI l &&& 31)
theorem y_sqb : ∀ l, l < 20 → ∀ r, r < 20 → l ≤ r → ∀ j, j < 32 → z_bt (y_bw l r) j = decide (l ≤ j ∧ j ≤ r) := by decide +kernel
theorem M56_67 {bits : Int32} {last : Nat} (hl : last < 20) : ∀ (j row : Nat) (S : Nat → Nat → Int32), row + j = last + 1 → ∃ S', L56_67 (some 8) bits (nI last) (nI row) (z_mk L Dh S R nx sl) = some (z_mk L Dh S' R nx sl) ∧ (∀ y, S' 15 y = if row ≤ y ∧ y ≤ last then S 15 y ||| bits else S 15 y) ∧ ∀ b, b ≠ 15 → S' b = S b := by
  intro j
  induction j with
  | zero =>
    intro row S hr
    refine ⟨S, ?_, fun y => by rw [if_neg (by omega)], fun _ _ => rfl⟩
    rw [E56_67, if_pos (nI_lt (by omega) (by omega))]
  | succ j ih =>
    intro row S hr
    have r1 : z_in (nI row) 20 = true := z_in_nI (by omega) (by decide)
    have r2 : (nI row).toNatClampNeg = row := z_cl (by omega)
    obtain ⟨S', e1, e2, e3⟩ := ih (row + 1) (z_ups S 15 row (S 15 row ||| bits)) (by omega)
    refine ⟨S', ?_, fun y => ?_, fun b hb => by rw [e3 b hb, z_ups_ne hb]⟩
    · rw [E56_67, if_neg (Int32.not_lt.mpr (nI_le (by omega) (by omega)))]
      simp only [g_8_11, z_bs, l_15 r1, s_15 r1, r2, nI_1]
      exact e1
    · rw [e2 y, z_upsE, if_pos rfl]
      by_cases q : y = row
      · subst q
        rw [if_neg (by omega), if_pos rfl, if_pos (by omega)]
      · rw [if_neg q]
        by_cases q2 : row + 1 ≤ y ∧ y ≤ last
        · rw [if_pos q2, if_pos (by omega)]
        · rw [if_neg q2, if_neg (by omega)]
theorem M56 {c n : Nat} (hc : c < 400) (hn : n < 7) {G : Nat → Bool} (hG : y_rows (S 15) G) : ∃ S', z_cV 2 56 [.inr (.inr (some 8)), .inl (nI c), .inl (nI n)] (z_mk L Dh S R nx sl) = some (z_mk L Dh S' R nx sl) ∧ y_rows (S' 15) (fun d => G d || decide (y_far d c ≤ n)) ∧ ∀ b, b ≠ 15 → S' b = S b := by
  obtain ⟨S', e1, e2, e3⟩ := M56_67 (L := L) (Dh := Dh) (R := R) (nx := nx) (sl := sl) (bits := y_bw (c % 20 - n) (min 19 (c % 20 + n))) (last := min 19 (c / 20 + n)) (by omega) (min 19 (c / 20 + n) + 1 - (c / 20 - n)) (c / 20 - n) S (by omega)
  refine ⟨S', ?_, y_rows_mk (fun x y hx hy => ?_) (fun y j hy hj hj2 => ?_), e3⟩
  · rw [E56, (z_cd c hc).2, (z_cd c hc).1]
    simp only [M229, M230, z_bs, (y_sq1 (c % 20) (by omega) n hn).1, (y_sq1 (c % 20) (by omega) n hn).2, (y_sq1 (c / 20) (by omega) n hn).1, (y_sq1 (c / 20) (by omega) n hn).2]
    exact e1
  · rw [e2 y]
    have hf : y_far (20 * y + x) c ≤ n ↔ (c / 20 - n ≤ y ∧ y ≤ min 19 (c / 20 + n)) ∧ (c % 20 - n ≤ x ∧ x ≤ min 19 (c % 20 + n)) := by
      unfold y_far
      rw [show (20 * y + x) / 20 = y by omega, show (20 * y + x) % 20 = x by omega]
      omega
    by_cases q : c / 20 - n ≤ y ∧ y ≤ min 19 (c / 20 + n)
    · rw [if_pos q, z_bt_or, y_rows_at hG hx hy, y_sqb _ (by omega) _ (by omega) (by omega) _ (by omega)]
      congr 1
      by_cases q2 : c % 20 - n ≤ x ∧ x ≤ min 19 (c % 20 + n)
      · rw [decide_eq_true q2, decide_eq_true (hf.mpr ⟨q, q2⟩)]
      · rw [decide_eq_false q2, decide_eq_false (fun w => q2 (hf.mp w).2)]
    · rw [if_neg q, y_rows_at hG hx hy, decide_eq_false (fun w => q (hf.mp w).1), Bool.or_false]
  · rw [e2 y]
    by_cases q : c / 20 - n ≤ y ∧ y ≤ min 19 (c / 20 + n)
    · rw [if_pos q, z_bt_or, hG.2 y j hy hj, y_sqb _ (by omega) _ (by omega) (by omega) _ hj2, decide_eq_false (by omega), Bool.false_or]
    · rw [if_neg q]; exact hG.2 y j hy hj
theorem M55_6 {a : Nat} {m : y_Mv} (hm : y_mok m) {sz t : Nat} (hz : sz ≤ 3) (ht : t ≤ 600) : ∀ (j l : Nat) (S : Nat → Nat → Int32) (G : Nat → Bool) (v : Int32), y_cM Dh R S a m → l + j = m.2.2.2.2.1 + 1 → y_rows (S 15) G → (v = -1 ∨ ∃ p, p < 400 ∧ v = nI p ∧ ∀ c, y_far c p ≤ sz + m.2.1 → G c = true) → ∃ S', L55_6 (some 8) (some a) (nI sz) (nI t) v (nI l) (z_mk L Dh S R nx sl) = some (z_mk L Dh S' R nx sl) ∧ y_rows (S' 15) (fun c => G c || y_cn c (sz + m.2.1) m t j l) ∧ ∀ b, b ≠ 15 → S' b = S b := by
  have h9 := hm.2.2.2.2.1
  have hs1 := hm.2.1
  intro j
  induction j with
  | zero =>
    intro l S G v C hl hG hv
    have hs : S a 4 = nI m.2.2.2.2.1 := C.2.2.2.2.2.1
    refine ⟨S, ?_, y_rows_congr hG (fun c _ => by show (G c || false) = G c; rw [Bool.or_false]), fun _ _ => rfl⟩
    rw [E55_6]
    simp only [y_g4 C.1, z_bs, hs]
    rw [if_pos (nI_lt (by omega) (by omega))]
  | succ j ih =>
    intro l S G v C hl hG hv
    have hs : S a 4 = nI m.2.2.2.2.1 := C.2.2.2.2.2.1
    have h87 := C.1.1
    have hp := y_P_lt hm (t - l)
    rw [E55_6]
    simp only [y_g4 C.1, y_ob C.1, z_bs, hs]
    rw [if_neg (show ¬ nI m.2.2.2.2.1 < nI l from Int32.not_lt.mpr (nI_le (by omega) (by omega))), M29l C ht (by omega)]
    simp only [z_bs, nI_1]
    by_cases c1 : nI (y_P m (t - l)) = v
    · rw [if_pos c1]
      have hin : ∀ c, y_far c (y_P m (t - l)) ≤ sz + m.2.1 → G c = true := by
        rcases hv with rfl | ⟨p, h1, rfl, h2⟩
        · exfalso
          have := z_eq.mp c1
          rw [z_nI (by omega)] at this
          have e1 : (-1 : Int32).toInt = -1 := rfl
          omega
        · rw [nI_eq (by omega) (by omega)] at c1
          rw [c1]; exact h2
      obtain ⟨S', e1, e2, e3⟩ := ih (l + 1) S G v C (by omega) hG hv
      refine ⟨S', e1, y_rows_congr e2 (fun c _ => ?_), e3⟩
      show (G c || y_cn c (sz + m.2.1) m t (j + 1) l) = (G c || y_cn c (sz + m.2.1) m t j (l + 1))
      rw [y_cn_s]
      by_cases q : y_far c (y_P m (t - l)) ≤ sz + m.2.1
      · rw [hin c q, Bool.true_or, Bool.true_or]
      · rw [decide_eq_false q, Bool.false_or]
    · rw [if_neg c1]
      obtain ⟨S1, f1, f2, f3⟩ := M56 (L := L) (Dh := Dh) (R := R) (nx := nx) (sl := sl) hp (show sz + m.2.1 < 7 by omega) hG
      obtain ⟨S', e1, e2, e3⟩ := ih (l + 1) S1 _ (nI (y_P m (t - l))) (y_cM_fr C (fun b hb _ => f3 b (by omega))) (by omega) f2 (Or.inr ⟨_, hp, rfl, fun c hc => by show (G c || decide (y_far c (y_P m (t - l)) ≤ sz + m.2.1)) = true; rw [decide_eq_true hc, Bool.or_true]⟩)
      refine ⟨S', ?_, y_rows_congr e2 (fun c _ => ?_), fun b hb => (e3 b hb).trans (f3 b hb)⟩
      · simp only [y_g1 C.1, C.2.2.1, o_8, z_bs, nI_add, f1]
        exact e1
      · show (G c || y_cn c (sz + m.2.1) m t (j + 1) l) = (G c || decide (y_far c (y_P m (t - l)) ≤ sz + m.2.1) || y_cn c (sz + m.2.1) m t j (l + 1))
        rw [y_cn_s, Bool.or_assoc]
theorem J_mov_15 {S' : Nat → Nat → Int32} {a : Nat} (ha : a = 13 ∨ a = 14 ∨ a = 15 ∨ a = 83 ∨ a = 84) (J : J_mov ms ad Dh S R nx) (e : ∀ b, b ≠ a → S' b = S b) : J_mov ms ad Dh S' R nx := J_mov_fr J ⟨by rw [e 8 (by omega)], by rw [e 52 (by omega)], e 55 (by omega), e 56 (by omega), e 57 (by omega), e 58 (by omega), e 59 (by omega), e 60 (by omega), e 61 (by omega), e 62 (by omega), fun b hb => e b (by omega)⟩
theorem M54_23 {sz t : Nat} (hz : sz ≤ 3) (ht : t ≤ 600) : ∀ (r : List y_Mv) (i : Nat) (S : Nat → Nat → Int32) (G : Nat → Bool), ms.drop i = r → i ≤ ms.length → J_mov ms ad Dh S R nx → y_rows (S 15) G → ∃ S', L54_23 (some 8) (nI sz) (nI t) (nI i) (z_mk L Dh S R nx sl) = some (z_mk L Dh S' R nx sl) ∧ y_rows (S' 15) (fun c => G c || y_dg r sz t c) ∧ ∀ b, b ≠ 15 → S' b = S b := by
  intro r
  induction r with
  | nil =>
    intro i S G hr hi J hG
    have h12 := J.1
    have hk : ms.length ≤ i := List.drop_eq_nil_iff.mp hr
    refine ⟨S, ?_, y_rows_congr hG (fun c _ => by show (G c || false) = G c; rw [Bool.or_false]), fun _ _ => rfl⟩
    rw [E54_23]
    simp only [g_8_3, z_bs, J.2.1]
    rw [if_pos (nI_le hk (by omega))]
  | cons m r ih =>
    intro i S G hr hi J hG
    have h12 := J.1
    obtain ⟨hk, hg, hd⟩ := y_drop_cons hr
    obtain ⟨a1, a2, a3, a4, a5⟩ := J.2.2.2.1 i hk
    rw [hg] at a3 a4 a5
    have ka := a3.1
    have hdg : ∀ c, y_dg (m :: r) sz t c = (y_d1 sz t c m || y_dg r sz t c) := fun c => rfl
    rw [E54_23]
    simp only [g_8_3, g_8_2, z_bs, J.2.1]
    rw [if_neg (nI_ge hk (by omega)), l_11 (z_in_nI (show i < 12 by omega) (by decide)), z_cl (show i < 2147483648 by omega), a1]
    simp only [z_bs, y_g0 a4.1, a4.2.1, nI_1, o_8]
    by_cases c1 : m.1 = 1
    · rw [if_neg (show ¬ ¬ nI m.1 = (1 : Int32) from fun q => q (by rw [c1]; rfl)), E55]
      obtain ⟨S1, f1, f2, f3⟩ := M55_6 (L := L) (Dh := Dh) (R := R) (nx := nx) (sl := sl) a3 hz ht (m.2.2.2.2.1 + 1) 0 S G (-1) a4 (by omega) hG (Or.inl rfl)
      obtain ⟨S', e1, e2, e3⟩ := ih (i + 1) S1 _ hd (by omega) (J_mov_15 (a := 15) (by omega) J f3) f2
      rw [show (0 : Int32) = nI 0 from rfl, f1]
      simp only [z_bs]
      refine ⟨S', e1, y_rows_congr e2 (fun c _ => ?_), fun b hb => (e3 b hb).trans (f3 b hb)⟩
      show (G c || y_dg (m :: r) sz t c) = (G c || y_cn c (sz + m.2.1) m t (m.2.2.2.2.1 + 1) 0 || y_dg r sz t c)
      rw [hdg, ← Bool.or_assoc]
      unfold y_d1
      rw [decide_eq_true c1, Bool.true_and]
    · rw [if_pos (show ¬ nI m.1 = (1 : Int32) from fun q => c1 ((nI_eq (b := 1) (by omega) (by decide)).mp q))]
      obtain ⟨S', e1, e2, e3⟩ := ih (i + 1) S G hd (by omega) J hG
      refine ⟨S', e1, y_rows_congr e2 (fun c _ => ?_), e3⟩
      show (G c || y_dg (m :: r) sz t c) = (G c || y_dg r sz t c)
      rw [hdg]
      unfold y_d1
      rw [decide_eq_false c1, Bool.false_and, Bool.false_or]
/-- a row of 20 is made 0 -/
def y_zr (S : Nat → Nat → Int32) (a n : Nat) : Nat → Nat → Int32 := fun b => if b = a then (fun q => if q < n then 0 else S a q) else S b
theorem y_zr_ne {a n b : Nat} (h : b ≠ a) : y_zr S a n b = S b := by unfold y_zr; rw [if_neg h]
theorem y_zr_a {a n q : Nat} : y_zr S a n a q = if q < n then 0 else S a q := by unfold y_zr; rw [if_pos rfl]
theorem y_zr_0 {a : Nat} : y_zr S a 0 = S := by
  funext b q
  by_cases c : b = a
  · subst c; rw [y_zr_a, if_neg (by omega)]
  · rw [y_zr_ne c]
theorem y_zr_s {a n : Nat} : z_ups (y_zr S a n) a n 0 = y_zr S a (n + 1) := by
  funext b q
  by_cases c : b = a
  · subst c
    rw [z_upsE, if_pos rfl, y_zr_a, y_zr_a]
    by_cases d : q = n
    · rw [if_pos d, if_pos (by omega)]
    · rw [if_neg d]
      by_cases e : q < n
      · rw [if_pos e, if_pos (by omega)]
      · rw [if_neg e, if_neg (by omega)]
  · rw [z_ups_ne c, y_zr_ne c, y_zr_ne c]
theorem y_zr_rows {a : Nat} : y_rows (y_zr S a 20 a) (fun _ => false) := y_rows_mk (fun x y _ hy => by rw [y_zr_a, if_pos hy, z_bt_0]) (fun y j hy _ _ => by rw [y_zr_a, if_pos hy, z_bt_0])
theorem M54_2 {sz t : Nat} : ∀ (j y : Nat), y + j = 20 → L54_2 (some 8) (nI sz) (nI t) (nI y) (z_mk L Dh (y_zr S 15 y) R nx sl) = L54_23 (some 8) (nI sz) (nI t) 0 (z_mk L Dh (y_zr S 15 20) R nx sl) := by
  intro j
  induction j with
  | zero =>
    intro y hy
    rw [E54_2, if_pos (show (20 : Int32) ≤ nI y from nI_le (a := 20) (by omega) (by omega)), show y = 20 by omega]
  | succ j ih =>
    intro y hy
    rw [E54_2, if_neg (show ¬ (20 : Int32) ≤ nI (y) from nI_ge (a := y) (b := 20) (by omega) (by decide))]
    simp only [g_8_11, z_bs, s_15 (z_in_nI (show y < 20 by omega) (by decide)), z_cl (show y < 2147483648 by omega), y_zr_s, nI_1]
    exact ih (y + 1) (by omega)
theorem M54 (J : J_mov ms ad Dh S R nx) {sz t : Nat} (hz : sz ≤ 3) (ht : t ≤ 600) : ∃ S', z_cV 4 54 [.inr (.inr (some 8)), .inl (nI sz), .inl (nI t)] (z_mk L Dh S R nx sl) = some (z_mk L Dh S' R nx sl) ∧ y_rows (S' 15) (y_dg ms sz t) ∧ ∀ b, b ≠ 15 → S' b = S b := by
  obtain ⟨S', e1, e2, e3⟩ := M54_23 (L := L) (Dh := Dh) (R := R) (nx := nx) (sl := sl) hz ht ms 0 (y_zr S 15 20) (fun _ => false) rfl (by omega) (J_mov_15 (a := 15) (by omega) J (fun b hb => y_zr_ne hb)) y_zr_rows
  refine ⟨S', ?_, y_rows_congr e2 (fun c _ => (Bool.false_or _).symm), fun b hb => by rw [e3 b hb, y_zr_ne hb]⟩
  have := M54_2 (L := L) (Dh := Dh) (S := S) (R := R) (nx := nx) (sl := sl) (sz := sz) (t := t) 20 0 (by omega)
  rw [y_zr_0] at this
  rw [E54, show (0 : Int32) = nI 0 from rfl, this]
  exact e1
/-! leaving harm -/
theorem z_bt_m1 : ∀ j, j < 32 → z_bt (-1) j = true := by decide +kernel
theorem z_bt_not {x : Int32} {j : Nat} (hj : j < 32) : z_bt (x ^^^ (-1)) j = !z_bt x j := by rw [z_bt_xor, z_bt_m1 j hj, Bool.xor_true]
def y_lv (S : Nat → Nat → Int32) (n : Nat) : Nat → Nat → Int32 := fun b => if b = 13 then (fun q => if q < n then S 13 q &&& (S 15 q ^^^ (-1)) else S 13 q) else S b
theorem y_lv_ne {n b : Nat} (h : b ≠ 13) : y_lv S n b = S b := by unfold y_lv; rw [if_neg h]
theorem y_lv_a {n q : Nat} : y_lv S n 13 q = if q < n then S 13 q &&& (S 15 q ^^^ (-1)) else S 13 q := by unfold y_lv; rw [if_pos rfl]
theorem y_lv_0 : y_lv S 0 = S := by
  funext b q
  by_cases c : b = 13
  · subst c; rw [y_lv_a, if_neg (by omega)]
  · rw [y_lv_ne c]
theorem y_lv_s {n : Nat} : z_ups (y_lv S n) 13 n (S 13 n &&& (S 15 n ^^^ (-1))) = y_lv S (n + 1) := by
  funext b q
  by_cases c : b = 13
  · subst c
    rw [z_upsE, if_pos rfl, y_lv_a, y_lv_a]
    by_cases d : q = n
    · rw [if_pos d, if_pos (by omega), d]
    · rw [if_neg d]
      by_cases e : q < n
      · rw [if_pos e, if_pos (by omega)]
      · rw [if_neg e, if_neg (by omega)]
  · rw [z_ups_ne c, y_lv_ne c, y_lv_ne c]
theorem M57_4 : ∀ (j y : Nat) (v : Bool), y + j = 20 → (v = y_an (fun q => decide (S 13 q &&& (S 15 q ^^^ (-1)) ≠ 0)) y) → L57_4 (some 8) (if v = true then 1 else 0) (nI y) (z_mk L Dh (y_lv S y) R nx sl) = some (if y_an (fun q => decide (S 13 q &&& (S 15 q ^^^ (-1)) ≠ 0)) 20 = true then 1 else 0, z_mk L Dh (y_lv S 20) R nx sl) := by
  intro j
  induction j with
  | zero =>
    intro y v hy hv
    obtain rfl : y = 20 := by omega
    rw [E57_4, if_pos (show (20 : Int32) ≤ nI 20 by decide), ← hv]
    cases v
    · exact if_pos (Or.inl rfl)
    · exact if_pos (Or.inr rfl)
  | succ j ih =>
    intro y v hy hv
    have y1 : z_in (nI y) 20 = true := z_in_nI (by omega) (by decide)
    have y2 : (nI y).toNatClampNeg = y := z_cl (by omega)
    have ih := fun w hw => ih (y + 1) w (by omega) hw
    have l13 : y_lv S y 13 y = S 13 y := by rw [y_lv_a, if_neg (by omega)]
    have l15 : y_lv S y 15 = S 15 := y_lv_ne (by decide)
    have l13' : y_lv S (y + 1) 13 y = S 13 y &&& (S 15 y ^^^ (-1)) := by rw [y_lv_a, if_pos (by omega)]
    rw [E57_4, if_neg (show ¬ (20 : Int32) ≤ nI (y) from nI_ge (a := y) (b := 20) (by omega) (by decide))]
    simp only [g_8_9, g_8_11, z_bs, l_13 y1, l_15 y1, s_13 y1, y2, l13, l15, y_lv_s, nI_1, l13']
    have hs := y_an_s (fun q => decide (S 13 q &&& (S 15 q ^^^ (-1)) ≠ 0)) y
    cases v
    · rw [if_neg (show ¬ ¬ (if false = true then (1 : Int32) else 0) = 0 from fun q => q rfl)]
      by_cases c : S 13 y &&& (S 15 y ^^^ (-1)) = 0
      · rw [if_pos c]
        have := ih false (by rw [hs, ← hv, Bool.false_or, decide_eq_false (fun q => q c)])
        exact this
      · rw [if_neg c]
        have := ih true (by rw [hs, ← hv, Bool.false_or, decide_eq_true c])
        exact this
    · rw [if_pos (show ¬ (if true = true then (1 : Int32) else 0) = 0 by decide)]
      have := ih true (by rw [hs, ← hv, Bool.true_or])
      exact this
theorem M57 {H G : Nat → Bool} (hH : y_rows (S 13) H) (hG : y_rows (S 15) G) : ∃ S', z_cI 1 57 [.inr (.inr (some 8))] (z_mk L Dh S R nx sl) = some (if y_an (fun c => H c && !G c) 400 = true then 1 else 0, z_mk L Dh S' R nx sl) ∧ y_rows (S' 13) (fun c => H c && !G c) ∧ ∀ b, b ≠ 13 → S' b = S b := by
  have hr : y_rows (y_lv S 20 13) (fun c => H c && !G c) := by
    refine y_rows_mk (fun x y hx hy => ?_) (fun y j hy hj hj2 => ?_)
    · rw [y_lv_a, if_pos hy, z_bt_and, z_bt_not (by omega), y_rows_at hH hx hy, y_rows_at hG hx hy]
    · rw [y_lv_a, if_pos hy, z_bt_and, hH.2 y j hy hj, Bool.false_and]
  refine ⟨y_lv S 20, ?_, hr, fun b hb => y_lv_ne hb⟩
  have h := M57_4 (L := L) (Dh := Dh) (S := S) (R := R) (nx := nx) (sl := sl) 20 0 false (by omega) rfl
  rw [y_lv_0] at h
  rw [E57]
  have e : y_an (fun q => decide (S 13 q &&& (S 15 q ^^^ (-1)) ≠ 0)) 20 = y_an (fun c => H c && !G c) 400 := by
    rw [Bool.eq_iff_iff, y_an_iff, y_an_iff]
    constructor
    · rintro ⟨y, hy, h⟩
      have h := of_decide_eq_true h
      have := mt (y_row0 hr hy).mpr (by rw [y_lv_a, if_pos hy]; exact h)
      obtain ⟨x, hx⟩ := Classical.not_forall.mp this
      obtain ⟨hx1, hx2⟩ := Classical.not_imp.mp hx
      exact ⟨20 * y + x, by omega, by revert hx2; cases (H (20 * y + x) && !G (20 * y + x)) <;> simp⟩
    · rintro ⟨c, hc, h⟩
      refine ⟨c / 20, by omega, decide_eq_true (fun q => ?_)⟩
      have := (y_row0 hr (show c / 20 < 20 by omega)).mp (by rw [y_lv_a, if_pos (by omega)]; exact q) (c % 20) (by omega)
      rw [show 20 * (c / 20) + c % 20 = c by omega] at this
      rw [h] at this
      cases this
  rw [e] at h
  exact h
theorem M58_2 : ∀ (j y : Nat), y + j = 20 → L58_2 (some 8) (nI y) (z_mk L Dh S R nx sl) = some (if (List.range' y j).any (fun q => decide (S 13 q &&& S 10 q ≠ 0)) = true then 1 else 0, z_mk L Dh S R nx sl) := by
  intro j
  induction j with
  | zero =>
    intro y hy
    rw [E58_2, if_pos (show (20 : Int32) ≤ nI y from nI_le (a := 20) (by omega) (by omega))]
    rfl
  | succ j ih =>
    intro y hy
    have y1 : z_in (nI y) 20 = true := z_in_nI (by omega) (by decide)
    have y2 : (nI y).toNatClampNeg = y := z_cl (by omega)
    rw [E58_2, if_neg (show ¬ (20 : Int32) ≤ nI (y) from nI_ge (a := y) (b := 20) (by omega) (by decide)), List.range'_succ, List.any_cons]
    simp only [g_8_9, g_8_1, z_bs, l_13 y1, l_10 y1, y2, nI_1]
    by_cases c : S 13 y &&& S 10 y = 0
    · rw [if_pos c, decide_eq_false (fun q => q c), Bool.false_or]
      exact ih (y + 1) (by omega)
    · rw [if_neg c, decide_eq_true c, Bool.true_or, if_pos rfl]
theorem M58 {H V : Nat → Bool} (hH : y_rows (S 13) H) (hV : y_rows (S 10) V) : z_cI 1 58 [.inr (.inr (some 8))] (z_mk L Dh S R nx sl) = some (if y_an (fun c => H c && V c) 400 = true then 1 else 0, z_mk L Dh S R nx sl) := by
  have hr : y_rows (fun y => S 13 y &&& S 10 y) (fun c => H c && V c) := by
    refine y_rows_mk (fun x y hx hy => ?_) (fun y j hy hj hj2 => ?_)
    · rw [z_bt_and, y_rows_at hH hx hy, y_rows_at hV hx hy]
    · rw [z_bt_and, hH.2 y j hy hj, Bool.false_and]
  have e : (List.range' 0 20).any (fun q => decide (S 13 q &&& S 10 q ≠ 0)) = y_an (fun c => H c && V c) 400 := by
    rw [Bool.eq_iff_iff, List.any_eq_true, y_an_iff]
    constructor
    · rintro ⟨y, hy, h⟩
      have hy : y < 20 := by have := List.mem_range'_1.mp hy; omega
      have h := of_decide_eq_true h
      have := mt (y_row0 hr hy).mpr h
      obtain ⟨x, hx⟩ := Classical.not_forall.mp this
      obtain ⟨hx1, hx2⟩ := Classical.not_imp.mp hx
      exact ⟨20 * y + x, by omega, by revert hx2; cases (H (20 * y + x) && V (20 * y + x)) <;> simp⟩
    · rintro ⟨c, hc, h⟩
      refine ⟨c / 20, List.mem_range'_1.mpr (by omega), decide_eq_true (fun q => ?_)⟩
      have := (y_row0 hr (show c / 20 < 20 by omega)).mp q (c % 20) (by omega)
      rw [show 20 * (c / 20) + c % 20 = c by omega] at this
      rw [h] at this
      cases this
  rw [E58, ← e]
  exact M58_2 20 0 (by omega)
end ZSO
