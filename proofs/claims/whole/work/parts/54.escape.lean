section ZSQ
variable {L : Nat} {Dh : Nat → z_Sh} {S : Nat → Nat → Int32} {R : Nat → Nat → Option Nat} {nx sl : Nat}
variable {ms : List y_Mv} {ad : Nat → Nat}
/-! who is saved -/
def y_h1 (st : Nat) (C H : Nat → Bool) (f : Nat) : Nat → Bool := if f = st then y_spr H C else H
def y_esc (ms : List y_Mv) (sz t st : Nat) (C V : Nat → Bool) : Nat → (Nat → Bool) → Nat → Nat → Int32
  | 0, _, _, _ => -9
  | j + 1, H, g, f => if (f = st ∨ g = 0) ∧ y_an (fun q => y_wd (y_h1 st C H f) ms sz (min (t + g) 600) q && V q) 400 = true then nI (t + g) else y_esc ms sz t st C V j (y_wd (y_h1 st C H f) ms sz (min (t + g) 600)) (g + 1) (if f = st then 1 else f + 1)
theorem y_esc_s (ms : List y_Mv) (sz t st : Nat) (C V : Nat → Bool) (j : Nat) (H : Nat → Bool) (g f : Nat) : y_esc ms sz t st C V (j + 1) H g f = if (f = st ∨ g = 0) ∧ y_an (fun q => y_wd (y_h1 st C H f) ms sz (min (t + g) 600) q && V q) 400 = true then nI (t + g) else y_esc ms sz t st C V j (y_wd (y_h1 st C H f) ms sz (min (t + g) 600)) (g + 1) (if f = st then 1 else f + 1) := rfl
theorem y_an_f {f : Nat → Bool} {n : Nat} (h : ∀ c, c < n → f c = false) : y_an f n = false := by
  rw [Bool.eq_false_iff]
  intro q
  obtain ⟨c, h1, h2⟩ := y_an_iff.mp q
  rw [h c h1] at h2
  cases h2
theorem y_esc_em {ms : List y_Mv} {sz t st : Nat} {C V : Nat → Bool} : ∀ (j : Nat) (H : Nat → Bool) (g f : Nat), (∀ c, c < 400 → H c = false) → y_esc ms sz t st C V j H g f = -9
  | 0, _, _, _, _ => rfl
  | j + 1, H, g, f, h => by
    have h1 : ∀ c, c < 400 → y_h1 st C H f c = false := fun c hc => by
      unfold y_h1
      by_cases q : f = st
      · rw [if_pos q]
        unfold y_spr
        rw [h c hc, y_an_f (fun d hd => by rw [h d hd, Bool.false_and]), Bool.and_false]
        rfl
      · rw [if_neg q]; exact h c hc
    have h2 : ∀ c, c < 400 → y_wd (y_h1 st C H f) ms sz (min (t + g) 600) c = false := fun c hc => by
      unfold y_wd
      rw [h1 c hc, Bool.false_and]
    rw [y_esc_s, if_neg (fun q => by
      rw [y_an_f (fun d hd => by rw [h2 d hd, Bool.false_and])] at q
      exact absurd q.2 (by decide))]
    exact y_esc_em j _ _ _ h2
theorem y_esc_far {ms : List y_Mv} {sz t st : Nat} {C V : Nat → Bool} : ∀ (j : Nat) (H : Nat → Bool) (g f : Nat), g + j = 101 → 1 ≤ g → f ≤ st → 100 < g + (st - f) → y_esc ms sz t st C V j H g f = -9
  | 0, _, _, _, _, _, _, _ => rfl
  | j + 1, H, g, f, h1, h2, h3, h4 => by
    rw [y_esc_s, if_neg (by omega), if_neg (by omega)]
    exact y_esc_far j _ _ _ (by omega) (by omega) (by omega) (by omega)
theorem y_esc_val {ms : List y_Mv} {sz t st : Nat} {C V : Nat → Bool} : ∀ (j : Nat) (H : Nat → Bool) (g f : Nat), y_esc ms sz t st C V j H g f = -9 ∨ ∃ n, n ≤ t + g + j ∧ y_esc ms sz t st C V j H g f = nI n
  | 0, _, _, _ => Or.inl rfl
  | j + 1, H, g, f => by
    rw [y_esc_s]
    by_cases c : (f = st ∨ g = 0) ∧ y_an (fun q => y_wd (y_h1 st C H f) ms sz (min (t + g) 600) q && V q) 400 = true
    · rw [if_pos c]; exact Or.inr ⟨t + g, by omega, rfl⟩
    · rw [if_neg c]
      rcases y_esc_val j (y_wd (y_h1 st C H f) ms sz (min (t + g) 600)) (g + 1) (if f = st then 1 else f + 1) with h | ⟨n, h1, h2⟩
      · exact Or.inl h
      · exact Or.inr ⟨n, by omega, h2⟩
/-- nothing but the rows that a body's run uses -/
def y_ef (S S' : Nat → Nat → Int32) : Prop := ∀ b, b ≠ 13 → b ≠ 14 → b ≠ 15 → S' b = S b
theorem y_ef_tr {S1 S2 : Nat → Nat → Int32} (h1 : y_ef S S1) (h2 : y_ef S1 S2) : y_ef S S2 := fun b x y z => (h2 b x y z).trans (h1 b x y z)
theorem J_mov_ef {S' : Nat → Nat → Int32} (J : J_mov ms ad Dh S R nx) (e : y_ef S S') : J_mov ms ad Dh S' R nx := J_mov_fr J ⟨by rw [e 8 (by decide) (by decide) (by decide)], by rw [e 52 (by decide) (by decide) (by decide)], e 55 (by decide) (by decide) (by decide), e 56 (by decide) (by decide) (by decide), e 57 (by decide) (by decide) (by decide), e 58 (by decide) (by decide) (by decide), e 59 (by decide) (by decide) (by decide), e 60 (by decide) (by decide) (by decide), e 61 (by decide) (by decide) (by decide), e 62 (by decide) (by decide) (by decide), fun b hb => e b (by omega) (by omega) (by omega)⟩
theorem M52_40 {a t st : Nat} {m : y_Mv} {C V : Nat → Bool} (hm : y_mok m) (ht : t ≤ 600) (hst : st ≤ 20) : ∀ (j g f : Nat) (S : Nat → Nat → Int32) (H : Nat → Bool), g + j = 101 → f ≤ g → J_mov ms ad Dh S R nx → y_cM Dh R S a m → S 8 4 = nI st → y_rows (S 9) C → y_rows (S 10) V → y_rows (S 13) H → (1 ≤ g → y_rows (S 15) (y_dg ms m.2.1 (min (t + (g - 1)) 600))) → ∃ S', L52_40 (some 8) (some a) (nI t) (nI f) (nI g) (z_mk L Dh S R nx sl) = some (y_esc ms m.2.1 t st C V j H g f, z_mk L Dh S' R nx sl) ∧ y_ef S S' := by
  have hz := hm.2.1
  intro j
  induction j with
  | zero =>
    intro g f S H hg hf J K h84 hC hV hH h15
    refine ⟨S, ?_, fun _ _ _ _ => rfl⟩
    rw [E52_40, if_pos (show (100 : Int32) < nI g from nI_lt (a := 100) (by omega) (by omega))]
    rfl
  | succ j ih =>
    intro g f S H hg hf J K h84 hC hV hH h15
    have h87 := K.1.1
    have hgt : (nI t + nI g) = nI (t + g) := nI_add t g
    -- spreading
    obtain ⟨S1, w, s1, s2, s3, s4, s5⟩ : ∃ (S1 : Nat → Nat → Int32) (w : Bool), (w = decide (f = st)) ∧ y_rows (S1 13) (y_h1 st C H f) ∧ (∀ b, b ≠ 13 → b ≠ 14 → S1 b = S b) ∧ (L52_40 (some 8) (some a) (nI t) (nI f) (nI g) (z_mk L Dh S R nx sl) = if (600 : Int32) < nI (t + g) then L52_98 (some 8) (some a) (nI t) (nI (if f = st then 1 else f + 1)) (nI g) (if w = true then 1 else 0) (z_mk L Dh S1 R nx sl) else (z_cV 4 54 [.inr (.inr (some 8)), .inl (nI m.2.1), .inl (nI (t + g))] (z_mk L Dh S1 R nx sl)).bind fun h2 => L52_98 (some 8) (some a) (nI t) (nI (if f = st then 1 else f + 1)) (nI g) (if w = true then 1 else 0) h2) ∧ y_cM Dh R S1 a m := by
      have e40 : ∀ W : Int32, W = (if decide (f = st) = true then 1 else 0) → L52_40 (some 8) (some a) (nI t) (nI f) (nI g) (z_mk L Dh S R nx sl) = L52_60 (some 8) (some a) (nI t) (nI f) (nI g) W (z_mk L Dh S R nx sl) := fun W hW => by
        rw [E52_40, if_neg (show ¬ (100 : Int32) < nI g from Int32.not_lt.mpr (nI_le (b := 100) (by omega) (by decide)))]
        simp only [g_8_4, z_bs, h84]
        by_cases q : f = st
        · rw [if_neg (fun w => w (by rw [q])), hW, decide_eq_true q, if_pos rfl]
        · rw [if_pos (fun w => q ((nI_eq (by omega) (by omega)).mp w)), hW, decide_eq_false q, if_neg (by decide)]
      by_cases q : f = st
      · obtain ⟨S1, e1, e2, e3⟩ := M53 (L := L) (Dh := Dh) (R := R) (nx := nx) (sl := sl) hH hC
        have K1 : y_cM Dh R S1 a m := y_cM_fr K (fun b hb _ => e3 b (by omega) (by omega))
        refine ⟨S1, true, (decide_eq_true q).symm, by unfold y_h1; rw [if_pos q]; exact e2, e3, ?_, K1⟩
        rw [e40 1 (by rw [decide_eq_true q, if_pos rfl]), E52_60, if_neg (by decide)]
        simp only [o_8, z_bs, e1, hgt, y_g1 K1.1, K1.2.2.1]
        rw [if_pos q]
        rfl
      · refine ⟨S, false, (decide_eq_false q).symm, by unfold y_h1; rw [if_neg q]; exact hH, fun _ _ _ => rfl, ?_, K⟩
        rw [e40 0 (by rw [decide_eq_false q, if_neg (by decide)]), E52_60, if_pos rfl]
        simp only [o_8, z_bs, hgt, y_g1 K.1, K.2.2.1, nI_1]
        rw [if_neg q]
        rfl
    have J1 : J_mov ms ad Dh S1 R nx := J_mov_ef J (fun b x y _ => s3 b x y)
    -- harm
    obtain ⟨S2, t1, t2, t3⟩ : ∃ S2, L52_40 (some 8) (some a) (nI t) (nI f) (nI g) (z_mk L Dh S R nx sl) = L52_98 (some 8) (some a) (nI t) (nI (if f = st then 1 else f + 1)) (nI g) (if w = true then 1 else 0) (z_mk L Dh S2 R nx sl) ∧ y_rows (S2 15) (y_dg ms m.2.1 (min (t + g) 600)) ∧ ∀ b, b ≠ 15 → S2 b = S1 b := by
      by_cases q : 600 < t + g
      · refine ⟨S1, by rw [s4, if_pos (show (600 : Int32) < nI (t + g) from nI_lt (a := 600) q (by omega))], ?_, fun _ _ => rfl⟩
        rw [s3 15 (by decide) (by decide)]
        have := h15 (by omega)
        rw [show min (t + (g - 1)) 600 = min (t + g) 600 by omega] at this
        exact this
      · obtain ⟨S2, e1, e2, e3⟩ := M54 (L := L) (Dh := Dh) (R := R) (nx := nx) (sl := sl) J1 hz (show t + g ≤ 600 by omega)
        refine ⟨S2, ?_, by rw [Nat.min_eq_left (by omega)]; exact e2, e3⟩
        rw [s4, if_neg (show ¬ (600 : Int32) < nI (t + g) from Int32.not_lt.mpr (nI_le (b := 600) (by omega) (by decide))), e1]
        rfl
    have r13 : y_rows (S2 13) (y_h1 st C H f) := by rw [t3 13 (by decide)]; exact s2
    obtain ⟨S3, u1, u2, u3⟩ := M57 (L := L) (Dh := Dh) (R := R) (nx := nx) (sl := sl) r13 t2
    have u1 : z_cI 1 57 [.inr (.inr (some 8))] (z_mk L Dh S2 R nx sl) = some (if y_an (y_wd (y_h1 st C H f) ms m.2.1 (min (t + g) 600)) 400 = true then 1 else 0, z_mk L Dh S3 R nx sl) := u1
    have u2 : y_rows (S3 13) (y_wd (y_h1 st C H f) ms m.2.1 (min (t + g) 600)) := u2
    have ef3 : y_ef S S3 := fun b x y z => by rw [u3 b x, t3 b z, s3 b x y]
    have K3 : y_cM Dh R S3 a m := y_cM_fr K (fun b hb _ => ef3 b (by omega) (by omega) (by omega))
    have V3 : y_rows (S3 10) V := by rw [ef3 10 (by decide) (by decide) (by decide)]; exact hV
    have hM58 := M58 (L := L) (Dh := Dh) (R := R) (nx := nx) (sl := sl) u2 V3
    have hfn : (if f = st then 1 else f + 1) ≤ g + 1 := by
      by_cases q : f = st
      · rw [if_pos q]; omega
      · rw [if_neg q]; omega
    rw [t1, E52_98, y_esc_s]
    simp only [o_8, z_bs, u1]
    generalize hH2 : y_wd (y_h1 st C H f) ms m.2.1 (min (t + g) 600) = H2 at *
    have ihh : ∃ S', L52_40 (some 8) (some a) (nI t) (nI (if f = st then 1 else f + 1)) (nI (g + 1)) (z_mk L Dh S3 R nx sl) = some (y_esc ms m.2.1 t st C V j H2 (g + 1) (if f = st then 1 else f + 1), z_mk L Dh S' R nx sl) ∧ y_ef S3 S' := ih (g + 1) _ S3 H2 (by omega) hfn (J_mov_ef J ef3) K3 (by rw [ef3 8 (by decide) (by decide) (by decide)]; exact h84) (by rw [ef3 9 (by decide) (by decide) (by decide)]; exact hC) V3 u2 (fun _ => by rw [u3 15 (by decide), Nat.add_sub_cancel]; exact t2)
    obtain ⟨S4, v1, v2⟩ := ihh
    by_cases q1 : y_an H2 400 = true
    · rw [if_pos q1, if_pos (by decide)]
      have chk : ∃ S', ((z_cI 1 58 [.inr (.inr (some 8))] (z_mk L Dh S3 R nx sl)).bind fun p2 => if p2.1 = (0 : Int32) then (L52_40 (some 8) (some a) (nI t) (nI (if f = st then 1 else f + 1)) (nI g + 1) p2.2) else (some ((nI t + nI g), p2.2))) = some (if y_an (fun q => H2 q && V q) 400 = true then nI (t + g) else y_esc ms m.2.1 t st C V j H2 (g + 1) (if f = st then 1 else f + 1), z_mk L Dh S' R nx sl) ∧ y_ef S S' := by
        rw [hM58]
        simp only [z_bs, hgt, nI_1]
        by_cases q2 : y_an (fun q => H2 q && V q) 400 = true
        · rw [if_pos q2, if_neg (by decide), if_pos q2]
          exact ⟨S3, rfl, ef3⟩
        · rw [if_neg q2, if_pos rfl, if_neg q2]
          exact ⟨S4, v1, y_ef_tr ef3 v2⟩
      by_cases q3 : f = st
      · rw [s1, decide_eq_true q3, if_pos rfl, if_pos (by decide)]
        obtain ⟨S', c1, c2⟩ := chk
        refine ⟨S', ?_, c2⟩
        rw [c1]
        by_cases q2 : y_an (fun q => H2 q && V q) 400 = true
        · rw [if_pos q2, if_pos ⟨Or.inl q3, q2⟩]
        · rw [if_neg q2, if_neg (show ¬ ((f = st ∨ g = 0) ∧ y_an (fun q => H2 q && V q) 400 = true) from fun w => q2 w.2)]
      · rw [s1, decide_eq_false q3, if_neg (show ¬ false = true by decide), if_neg (fun w => w rfl)]
        by_cases q4 : g = 0
        · rw [if_neg (show ¬ ¬ nI g = (0 : Int32) from fun w => w (by rw [q4]; rfl))]
          obtain ⟨S', c1, c2⟩ := chk
          refine ⟨S', ?_, c2⟩
          rw [c1]
          by_cases q2 : y_an (fun q => H2 q && V q) 400 = true
          · rw [if_pos q2, if_pos ⟨Or.inr q4, q2⟩]
          · rw [if_neg q2, if_neg (show ¬ ((f = st ∨ g = 0) ∧ y_an (fun q => H2 q && V q) 400 = true) from fun w => q2 w.2)]
        · rw [if_pos (nI_ne0 (by omega) (by omega)), if_neg (show ¬ ((f = st ∨ g = 0) ∧ y_an (fun q => H2 q && V q) 400 = true) from fun w => by omega), nI_1]
          exact ⟨S4, v1, y_ef_tr ef3 v2⟩
    · have hem : ∀ c, c < 400 → H2 c = false := fun c hc => by
        rw [Bool.eq_false_iff]
        intro w
        exact q1 (y_an_iff.mpr ⟨c, hc, w⟩)
      rw [if_neg q1, if_neg (fun w => w rfl), if_neg (fun w => by
        rw [y_an_f (fun d hd => by rw [hem d hd, Bool.false_and])] at w
        exact absurd w.2 (by decide)), y_esc_em _ _ _ _ hem]
      exact ⟨S3, rfl, ef3⟩
theorem M52_2 {a : Nat} {x : Int32} : ∀ (j y : Nat), y + j = 20 → L52_2 (some 8) (some a) x (nI y) (z_mk L Dh (y_zr S 13 y) R nx sl) = L52_2 (some 8) (some a) x (nI 20) (z_mk L Dh (y_zr S 13 20) R nx sl) := by
  intro j
  induction j with
  | zero =>
    intro y hy
    obtain rfl : y = 20 := by omega
    rfl
  | succ j ih =>
    intro y hy
    rw [E52_2, if_neg (show ¬ (20 : Int32) ≤ nI (y) from nI_ge (a := y) (b := 20) (by omega) (by decide))]
    simp only [g_8_9, z_bs, s_13 (z_in_nI (show y < 20 by omega) (by decide)), z_cl (show y < 2147483648 by omega), y_zr_s, nI_1]
    exact ih (y + 1) (by omega)
theorem y_one_rows {c : Nat} (hc : c < 400) : y_rows (z_ups (y_zr S 13 20) 13 (c / 20) (0 ^^^ ((1 : Int32) <<< (nI (c % 20) &&& 31))) 13) (fun q => decide (q = c)) := by
  refine y_rows_mk (fun x y hx hy => ?_) (fun y j hy hj hj2 => ?_)
  · rw [z_upsE, if_pos rfl]
    by_cases q : y = c / 20
    · rw [if_pos q, z_bt_xor, z_bt_0, z_bt_one (by omega) (by omega), Bool.false_xor]
      by_cases q2 : x = c % 20
      · rw [decide_eq_true q2, decide_eq_true (by omega)]
      · rw [decide_eq_false q2, decide_eq_false (by omega)]
    · rw [if_neg q, y_zr_a, if_pos hy, z_bt_0, decide_eq_false (by omega)]
  · rw [z_upsE, if_pos rfl]
    by_cases q : y = c / 20
    · rw [if_pos q, z_bt_xor, z_bt_0, z_bt_one (by omega) (by omega), Bool.false_xor, decide_eq_false (by omega)]
    · rw [if_neg q, y_zr_a, if_pos hy, z_bt_0]
theorem z_shS13 : z_shp L Dh 13 = .inl (0, 20) := rfl
def y_sv (ms : List y_Mv) (t st : Nat) (C V : Nat → Bool) (m : y_Mv) : Int32 := y_esc ms m.2.1 t st C V 101 (fun q => decide (q = y_P m t)) 0 0
theorem M52 {a t st : Nat} {m : y_Mv} {C V : Nat → Bool} (hm : y_mok m) (ht : t ≤ 600) (hst : st ≤ 20) (J : J_mov ms ad Dh S R nx) (K : y_cM Dh R S a m) (h84 : S 8 4 = nI st) (hC : y_rows (S 9) C) (hV : y_rows (S 10) V) : ∃ S', z_cI 5 52 [.inr (.inr (some 8)), .inr (.inr (some a)), .inl (nI t)] (z_mk L Dh S R nx sl) = some (y_sv ms t st C V m, z_mk L Dh S' R nx sl) ∧ y_ef S S' := by
  have h87 := K.1.1
  have hp := y_P_lt hm t
  obtain ⟨T, hT⟩ : ∃ T, T = z_ups (y_zr S 13 20) 13 (y_P m t / 20) (0 ^^^ ((1 : Int32) <<< (nI (y_P m t % 20) &&& 31))) := ⟨_, rfl⟩
  have e1 : y_ef S T := fun b x _ _ => by rw [hT, z_ups_ne x, y_zr_ne x]
  have K1 : y_cM Dh R (y_zr S 13 20) a m := y_cM_fr K (fun b hb _ => y_zr_ne (by omega))
  obtain ⟨S', f1, f2⟩ := M52_40 (L := L) (sl := sl) hm ht hst 101 0 0 T (fun q => decide (q = y_P m t)) (by omega) (by omega) (J_mov_ef J e1) (y_cM_fr K (fun b hb _ => e1 b (by omega) (by omega) (by omega))) (by rw [e1 8 (by decide) (by decide) (by decide)]; exact h84) (by rw [e1 9 (by decide) (by decide) (by decide)]; exact hC) (by rw [e1 10 (by decide) (by decide) (by decide)]; exact hV) (by rw [hT]; exact y_one_rows hp) (fun q => absurd q (by decide))
  refine ⟨S', ?_, y_ef_tr e1 f2⟩
  have h := M52_2 (L := L) (Dh := Dh) (S := S) (R := R) (nx := nx) (sl := sl) (a := a) (x := nI t) 20 0 (by omega)
  rw [y_zr_0] at h
  rw [E52]
  refine h.trans ?_
  rw [E52_2, if_pos (show (20 : Int32) ≤ nI 20 by decide)]
  simp only [g_8_9, y_ob K1.1, z_bs, M29n K1 ht]
  rw [M129 z_shS13 hp]
  have z0 : y_zr S 13 20 13 (y_P m t / 20) = 0 := by rw [y_zr_a, if_pos (by omega)]
  rw [z0, z_bt_0, if_neg (show ¬ (if false = true then (1 : Int32) else 0) = 1 by decide), ← hT]
  simp only [z_bs]
  exact f1
/-! the model -/
theorem M157_71 {b t st : Nat} {C V : Nat → Bool} (hbl : b < ms.length) (ht : t ≤ 600) (hst : st ≤ 20) (hst1 : 1 ≤ st) : ∀ (j g f : Nat) (S : Nat → Nat → Int32) (H : Nat → Bool), g + j = 101 → 1 ≤ f → f ≤ st → 1 ≤ g → g + (st - f) ≤ 100 → J_mov ms ad Dh S R nx → S 52 11 = nI st → y_bo (S 53) C → y_bo (S 54) V → y_bo (S 83) H → ∃ S', L157_71 (some 52) (nI b) (nI t) (nI (t + g + (st - f))) (nI (t + g)) (z_mk L Dh S R nx sl) = some (y_esc ms (ms[b]).2.1 t st C V j H g f, z_mk L Dh S' R nx sl) ∧ y_wf2 S S' := by
  intro j
  induction j with
  | zero => intro g f S H h1 h2 h3 h4 h5; omega
  | succ j ih =>
    intro g f S H h1 h2 h3 h4 h5 J h11 hC hV hH
    by_cases q : f = st
    · have e0 : t + g + (st - f) = t + g := by omega
      rw [e0, E157_71, if_pos (nI_le (Nat.le_refl _) (by omega))]
      obtain ⟨S1, a1, a2, a3⟩ := M156 (L := L) (Dh := Dh) (R := R) (nx := nx) (sl := sl) hH hC
      have w1 : y_wf2 S S1 := ⟨fun b _ _ z u _ => a3 b z u, fun q _ => by rw [a3 52 (by decide) (by decide)]⟩
      have J1 := J_mov_wf2 J w1
      obtain ⟨S2, b1, b2, b3⟩ := M155 (L := L) (sl := sl) J1 hbl (show t + g < 10000 by omega) a2 (V := V) (by rw [a3 54 (by decide) (by decide)]; exact hV)
      have w2 := y_wf2_tr w1 b3
      have hh : y_h1 st C H f = y_spr H C := by unfold y_h1; rw [if_pos q]
      have k11 : S2 52 11 = nI st := (w2.2 11 (by decide)).trans h11
      simp only [o_52, z_bs, a1, b1]
      rw [y_esc_s, hh]
      by_cases c : y_an (fun x => y_wd (y_spr H C) ms (ms[b]).2.1 (min (t + g) 600) x && V x) 400 = true
      · rw [if_pos c, if_neg (by decide), if_pos ⟨Or.inl q, c⟩]
        exact ⟨S2, rfl, w2⟩
      · rw [if_neg c, if_pos rfl, if_neg (fun w => c w.2), if_pos q]
        simp only [g_52_11, z_bs, k11, nI_add]
        rw [E157_53, show nI t + (100 : Int32) = nI (t + 100) from nI_add t 100]
        by_cases d : 100 < g + st
        · rw [if_pos (nI_lt (by omega) (by omega)), y_esc_far j _ _ _ (by omega) (by omega) (by omega) (by omega)]
          exact ⟨S2, rfl, w2⟩
        · rw [if_neg (Int32.not_lt.mpr (nI_le (by omega) (by omega)))]
          simp only [g_52_11, z_bs, k11]
          rw [z_nI_sub (by omega), nI_1]
          obtain ⟨S3, d1, d2⟩ := ih (g + 1) 1 S2 _ (by omega) (by omega) hst1 (by omega) (by omega) (J_mov_wf2 J w2) k11 (by rw [w2.1 53 (by decide) (by decide) (by decide) (by decide) (by decide)]; exact hC) (by rw [w2.1 54 (by decide) (by decide) (by decide) (by decide) (by decide)]; exact hV) b2
          refine ⟨S3, ?_, y_wf2_tr w2 d2⟩
          rw [show t + (g + 1) + (st - 1) = t + g + st by omega, show t + (g + 1) = t + g + st - st + 1 by omega] at d1
          exact d1
    · rw [E157_71, if_neg (nI_ge (by omega) (by omega))]
      obtain ⟨S2, b1, b2, b3⟩ := M155 (L := L) (sl := sl) J hbl (show t + g < 10000 by omega) hH (V := V) hV
      have hh : y_h1 st C H f = H := by unfold y_h1; rw [if_neg q]
      simp only [o_52, z_bs, b1, nI_1]
      rw [y_esc_s, hh, if_neg (by omega), if_neg q]
      obtain ⟨S3, d1, d2⟩ := ih (g + 1) (f + 1) S2 _ (by omega) (by omega) (by omega) (by omega) (by omega) (J_mov_wf2 J b3) ((b3.2 11 (by decide)).trans h11) (by rw [b3.1 53 (by decide) (by decide) (by decide) (by decide) (by decide)]; exact hC) (by rw [b3.1 54 (by decide) (by decide) (by decide) (by decide) (by decide)]; exact hV) b2
      refine ⟨S3, ?_, y_wf2_tr b3 d2⟩
      rw [show t + (g + 1) + (st - (f + 1)) = t + g + (st - f) by omega, show t + (g + 1) = t + g + 1 by omega] at d1
      exact d1
theorem M157_2 {b : Nat} {x : Int32} : ∀ (j y : Nat), y + j = 400 → L157_2 (some 52) (nI b) x (nI y) (z_mk L Dh (y_zr S 83 y) R nx sl) = L157_2 (some 52) (nI b) x (nI 400) (z_mk L Dh (y_zr S 83 400) R nx sl) := by
  intro j
  induction j with
  | zero =>
    intro y hy
    obtain rfl : y = 400 := by omega
    rfl
  | succ j ih =>
    intro y hy
    rw [E157_2, if_neg (show ¬ (400 : Int32) ≤ nI (y) from nI_ge (a := y) (b := 400) (by omega) (by decide))]
    simp only [g_52_47, z_bs, s_83 (z_in_nI (show y < 400 by omega) (by decide)) (Or.inl rfl), z_cl (show y < 2147483648 by omega), y_zr_s, nI_1]
    exact ih (y + 1) (by omega)
theorem M157 {b t st : Nat} {C V : Nat → Bool} (hbl : b < ms.length) (ht : t ≤ 600) (hst : st ≤ 20) (hst1 : 1 ≤ st) (J : J_mov ms ad Dh S R nx) (h11 : S 52 11 = nI st) (hC : y_bo (S 53) C) (hV : y_bo (S 54) V) : ∃ S', z_cI 6 157 [.inr (.inr (some 52)), .inl (nI b), .inl (nI t)] (z_mk L Dh S R nx sl) = some (y_sv ms t st C V ms[b], z_mk L Dh S' R nx sl) ∧ y_wf2 S S' := by
  have h12 := J.1
  obtain ⟨k1, k2, k3, k4, k5⟩ := J.2.2.2.1 b hbl
  have hp := y_P_lt k3 t
  have p1 : z_in (nI (y_P ms[b] t)) 400 = true := z_in_nI hp (by decide)
  have p2 : (nI (y_P ms[b] t)).toNatClampNeg = y_P ms[b] t := z_cl (by omega)
  have w0 : y_wf2 S (y_zr S 83 400) := ⟨fun b _ _ z _ _ => y_zr_ne z, fun q _ => by rw [y_zr_ne (by decide)]⟩
  obtain ⟨T, hT⟩ : ∃ T, T = z_ups (y_zr S 83 400) 83 (y_P ms[b] t) 1 := ⟨_, rfl⟩
  have w1 : y_wf2 S T := ⟨fun b _ _ z _ _ => by rw [hT, z_ups_ne z, y_zr_ne z], fun q _ => by rw [hT, z_ups_ne (by decide), y_zr_ne (by decide)]⟩
  have J0 := J_mov_wf2 J w0
  have J1 := J_mov_wf2 J w1
  have hH : y_bo (T 83) (fun q => decide (q = y_P ms[b] t)) := fun c hc => by
    show T 83 c = if decide (c = y_P ms[b] t) = true then 1 else 0
    rw [hT, z_upsE, if_pos rfl]
    by_cases q : c = y_P ms[b] t
    · rw [if_pos q, decide_eq_true q, if_pos rfl]
    · rw [if_neg q, decide_eq_false q, if_neg (by decide), y_zr_a, if_pos hc]
  have V1 : y_bo (T 54) V := by rw [w1.1 54 (by decide) (by decide) (by decide) (by decide) (by decide)]; exact hV
  obtain ⟨S2, b1, b2, b3⟩ := M155 (L := L) (sl := sl) J1 hbl (show t < 10000 by omega) hH V1
  have w2 := y_wf2_tr w1 b3
  have k11 : S2 52 11 = nI st := (w2.2 11 (by decide)).trans h11
  have h := M157_2 (L := L) (Dh := Dh) (S := S) (R := R) (nx := nx) (sl := sl) (b := b) (x := nI t) 400 0 (by omega)
  rw [y_zr_0] at h
  have hM : z_cI 3 144 [.inr (.inr (some 52)), .inl (nI b), .inl (nI t), .inl (0 : Int32)] (z_mk L Dh (y_zr S 83 400) R nx sl) = some (nI (y_P ms[b] t), z_mk L Dh (y_zr S 83 400) R nx sl) := M144 (l := 0) (show b < 12 by omega) k3 (J0.2.2.2.1 b hbl).2.2.2.2 ht (by omega)
  have e0 : z_cI 6 157 [.inr (.inr (some 52)), .inl (nI b), .inl (nI t)] (z_mk L Dh S R nx sl) = (z_cI 5 155 [.inr (.inr (some 52)), .inl (nI t), .inl (nI b)] (z_mk L Dh T R nx sl)).bind fun p4 => if p4.1 = (0 : Int32) then ((z_gI p4.2 (some 52) 11 11).bind fun x5 => L157_53 (some 52) (nI b) (nI t) (nI t + x5) p4.2) else (some (nI t, p4.2)) := by
    rw [E157]
    refine h.trans ?_
    rw [E157_2, if_pos (show (400 : Int32) ≤ nI 400 by decide)]
    simp only [g_52_47, o_52, z_bs, hM, s_83 p1 (Or.inr rfl), p2]
    rw [← hT]
  rw [e0, b1]
  simp only [z_bs, g_52_11, k11, nI_add]
  unfold y_sv
  rw [show (101 : Nat) = 100 + 1 from rfl, y_esc_s]
  have hh : y_h1 st C (fun q => decide (q = y_P ms[b] t)) 0 = (fun q => decide (q = y_P ms[b] t)) := by unfold y_h1; rw [if_neg (by omega)]
  rw [hh, Nat.add_zero]
  by_cases c : y_an (fun x => y_wd (fun q => decide (q = y_P ms[b] t)) ms (ms[b]).2.1 (min t 600) x && V x) 400 = true
  · rw [if_pos c, if_neg (by decide), if_pos ⟨Or.inr rfl, c⟩]
    exact ⟨S2, rfl, w2⟩
  · rw [if_neg c, if_pos rfl, if_neg (fun w => c w.2), if_neg (show ¬ 0 = st by omega), E157_53, show nI t + (100 : Int32) = nI (t + 100) from nI_add t 100, if_neg (Int32.not_lt.mpr (nI_le (by omega) (by omega)))]
    simp only [g_52_11, z_bs, k11]
    rw [z_nI_sub (by omega), nI_1]
    obtain ⟨S3, d1, d2⟩ := M157_71 (L := L) (sl := sl) hbl ht hst hst1 100 1 1 S2 _ (by omega) (by omega) hst1 (by omega) (by omega) (J_mov_wf2 J w2) k11 (by rw [w2.1 53 (by decide) (by decide) (by decide) (by decide) (by decide)]; exact hC) (by rw [w2.1 54 (by decide) (by decide) (by decide) (by decide) (by decide)]; exact hV) b2
    refine ⟨S3, ?_, y_wf2_tr w2 d2⟩
    rw [show t + 1 + (st - 1) = t + st by omega, show t + 1 = t + st - st + 1 by omega] at d1
    exact d1
end ZSQ
