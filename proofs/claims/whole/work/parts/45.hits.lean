/-! what hits are -/
def y_far (a b : Nat) : Nat := max (max (a % 20 - b % 20) (b % 20 - a % 20)) (max (a / 20 - b / 20) (b / 20 - a / 20))
theorem y_far_comm (a b : Nat) : y_far a b = y_far b a := by unfold y_far; omega
/-- the first of n that is so, n if none -/
def y_fi (f : Nat → Bool) : Nat → Nat → Nat
  | 0, t => t
  | j + 1, t => if f t = true then t else y_fi f j (t + 1)
def y_tch (m k : y_Mv) (t : Nat) : Bool := (List.range (m.2.2.2.2.1 + 1)).any fun a => (List.range (k.2.2.2.2.1 + 1)).any fun b => decide (y_far (y_P m (t - a)) (y_P k (t - b)) ≤ m.2.1 + k.2.1)
theorem y_tch_iff {m k : y_Mv} {t : Nat} : y_tch m k t = true ↔ ∃ a b, a ≤ m.2.2.2.2.1 ∧ b ≤ k.2.2.2.2.1 ∧ y_far (y_P m (t - a)) (y_P k (t - b)) ≤ m.2.1 + k.2.1 := by
  unfold y_tch
  rw [List.any_eq_true]
  constructor
  · rintro ⟨a, ha, h⟩
    rw [List.any_eq_true] at h
    obtain ⟨b, hb, h⟩ := h
    rw [List.mem_range] at ha hb
    exact ⟨a, b, by omega, by omega, of_decide_eq_true h⟩
  · rintro ⟨a, b, ha, hb, h⟩
    refine ⟨a, List.mem_range.mpr (by omega), ?_⟩
    rw [List.any_eq_true]
    exact ⟨b, List.mem_range.mpr (by omega), decide_eq_true h⟩
theorem y_tch_comm (m k : y_Mv) (t : Nat) : y_tch m k t = y_tch k m t := by
  rw [Bool.eq_iff_iff, y_tch_iff, y_tch_iff]
  constructor
  · rintro ⟨a, b, h1, h2, h3⟩
    exact ⟨b, a, h2, h1, by rw [y_far_comm, Nat.add_comm]; exact h3⟩
  · rintro ⟨a, b, h1, h2, h3⟩
    exact ⟨b, a, h2, h1, by rw [y_far_comm, Nat.add_comm]; exact h3⟩
def y_hit (m k : y_Mv) : Nat := y_fi (y_tch m k) 601 0
theorem y_hit_comm (m k : y_Mv) : y_hit m k = y_hit k m := by
  unfold y_hit
  rw [show y_tch m k = y_tch k m from funext (y_tch_comm m k)]
theorem y_fi_le (f : Nat → Bool) : ∀ j t, t ≤ y_fi f j t ∧ y_fi f j t ≤ t + j
  | 0, t => ⟨Nat.le_refl _, Nat.le_refl _⟩
  | j + 1, t => by
    unfold y_fi
    by_cases c : f t = true
    · rw [if_pos c]; omega
    · rw [if_neg c]
      have := y_fi_le f j (t + 1)
      omega
theorem y_hit_le (m k : y_Mv) : y_hit m k ≤ 601 := by
  have := y_fi_le (y_tch m k) 601 0
  unfold y_hit
  omega
/-- the first hit of all -/
abbrev y_Ft : Type := Nat × Nat × Nat
def y_in (h : Nat → Nat) (a : Nat) : Nat → Nat → y_Ft → y_Ft
  | 0, _, s => s
  | j + 1, b, s => y_in h a j (b + 1) (if h b < s.1 then (h b, a, b) else s)
def y_out (H : Nat → Nat → Nat) (n : Nat) : Nat → Nat → y_Ft → y_Ft
  | 0, _, s => s
  | j + 1, a, s => y_out H n j (a + 1) (y_in (H a) a (n - (a + 1)) (a + 1) s)
def y_H (ms : List y_Mv) (a b : Nat) : Nat := match ms[a]?, ms[b]? with
  | some m, some k => if m.1 = 1 ∨ k.1 = 1 then y_hit m k else 601
  | _, _ => 601
def y_fst (ms : List y_Mv) : y_Ft := y_out (y_H ms) ms.length ms.length 0 (601, 0, 0)
def J_hit (ms : List y_Mv) (S : Nat → Nat → Int32) : Prop := ∀ i j (hij : i < j) (hj : j < ms.length), S 12 (12 * i + j) = -1 ∨ S 12 (12 * i + j) = nI (y_hit ms[i] ms[j])
/-- what the model keeps of the first hit; k calls so far -/
def y_f9 (s : y_Ft) (x : Nat) : Int32 := if s.1 < 601 then nI x else -9
def J_ed (k : Nat) (ms : List y_Mv) (S : Nat → Nat → Int32) : Prop := ∃ e : Nat, e ≤ k ∧ S 52 49 = nI e ∧ (S 52 50 = -1 ∨ ∃ f, f ≤ e ∧ S 52 50 = nI f) ∧ (S 52 50 = nI e → S 85 0 = y_f9 (y_fst ms) (y_fst ms).1 ∧ S 85 1 = y_f9 (y_fst ms) (y_fst ms).2.1 ∧ S 85 2 = y_f9 (y_fst ms) (y_fst ms).2.2)
/-- cells that are no mover's -/
def y_nm (Dh : Nat → z_Sh) (b : Nat) : Prop := Dh b ≠ .inr (.inr (4, [0, 0, 0, 0, 0, 0, 0, 0, 2, 2, 2, 2, 2])) ∧ Dh b ≠ .inl (0, 10) ∧ Dh b ≠ .inl (0, 601)
theorem y_nm_ne {Dh : Nat → z_Sh} {R : Nat → Nat → Option Nat} {a b : Nat} (h : y_Ob Dh R a) (hb : y_nm Dh b) : ¬ (a ≤ b ∧ b ≤ a + 5) := by
  rintro ⟨h1, h2⟩
  obtain ⟨n1, n2, n3⟩ := hb
  obtain ⟨-, k0, k1, k2, k3, k4, k5, -⟩ := h
  rcases (show b = a ∨ b = a + 1 ∨ b = a + 2 ∨ b = a + 3 ∨ b = a + 4 ∨ b = a + 5 by omega) with rfl | rfl | rfl | rfl | rfl | rfl
  · exact n1 k0
  · exact n2 k1
  · exact n2 k2
  · exact n2 k3
  · exact n2 k4
  · exact n3 k5
def A_mv (a : Nat) : Bool := decide (a ∈ [7, 12, 55, 56, 57, 58, 59, 60, 61, 62, 86]) || decide (87 ≤ a)
def K_mv (k : Nat) : Bool := decide (k ∈ [49])
section ZSH
variable {L : Nat} {Dh : Nat → z_Sh} {S : Nat → Nat → Int32} {R : Nat → Nat → Option Nat} {nx sl : Nat}
variable {ms : List y_Mv} {ad : Nat → Nat}
/-- hits that are forgotten -/
def y_fgo (S : Nat → Nat → Int32) (i o : Nat) : Nat → Nat → Int32 := fun b => if b = 12 then (fun q => if q < 144 ∧ ((q / 12 = i ∧ q % 12 < o) ∨ (q % 12 = i ∧ q / 12 < o)) then -1 else S 12 q) else S b
theorem y_fgo_ne {i p b : Nat} (h : b ≠ 12) : y_fgo S i p b = S b := by unfold y_fgo; rw [if_neg h]
theorem y_fgo_12 {i p q : Nat} : y_fgo S i p 12 q = if q < 144 ∧ ((q / 12 = i ∧ q % 12 < p) ∨ (q % 12 = i ∧ q / 12 < p)) then -1 else S 12 q := by unfold y_fgo; rw [if_pos rfl]
theorem y_fgo_0 {i : Nat} : y_fgo S i 0 = S := by
  funext b q
  unfold y_fgo
  by_cases c : b = 12
  · rw [if_pos c, c]
    show (if q < 144 ∧ ((q / 12 = i ∧ q % 12 < 0) ∨ (q % 12 = i ∧ q / 12 < 0)) then (-1 : Int32) else S 12 q) = S 12 q
    rw [if_neg (by omega)]
  · rw [if_neg c]
theorem y_fgo_s {i p : Nat} (hi : i < 12) (hp : p < 12) : z_ups (z_ups (y_fgo S i p) 12 (12 * i + p) (-1)) 12 (12 * p + i) (-1) = y_fgo S i (p + 1) := by
  funext b q
  rw [z_upsE, z_upsE]
  unfold y_fgo
  by_cases c : b = 12
  · simp only [c, z_iT]
    by_cases d1 : q = 12 * p + i
    · rw [if_pos d1, if_pos (by omega)]
    · rw [if_neg d1]
      by_cases d2 : q = 12 * i + p
      · rw [if_pos d2, if_pos (by omega)]
      · rw [if_neg d2]
        by_cases d3 : q < 144 ∧ ((q / 12 = i ∧ q % 12 < p) ∨ (q % 12 = i ∧ q / 12 < p))
        · rw [if_pos d3, if_pos (by omega)]
        · rw [if_neg d3, if_neg (by omega)]
  · simp only [c, z_iF]
theorem M46_2 {i : Nat} (hi : i < 12) : ∀ (j p : Nat), p + j = 12 → L46_2 (some 8) (nI i) (nI p) (z_mk L Dh (y_fgo S i p) R nx sl) = some (z_mk L Dh (y_fgo S i 12) R nx sl) := by
  intro j
  induction j with
  | zero =>
    intro p hp
    have e : p = 12 := by omega
    subst e
    rw [E46_2, if_pos (by decide)]
  | succ j ih =>
    intro p hp
    have ih := ih (p + 1) (by omega)
    have a1 : z_in (nI (12 * i + p)) 144 = true := z_in_nI (by omega) (by decide)
    have a2 : z_in (nI (12 * p + i)) 144 = true := z_in_nI (by omega) (by decide)
    have b1 : (nI (12 * i + p)).toNatClampNeg = 12 * i + p := z_cl (by omega)
    have b2 : (nI (12 * p + i)).toNatClampNeg = 12 * p + i := z_cl (by omega)
    rw [E46_2, if_neg (show ¬ (12 : Int32) ≤ nI (p) from nI_ge (a := p) (b := 12) (by omega) (by decide)), show (12 : Int32) * nI i + nI p = nI (12 * i + p) from z_pl 12 i p, show (12 : Int32) * nI p + nI i = nI (12 * p + i) from z_pl 12 p i]
    simp only [g_8_5, z_bs, s_12 a1, s_12 a2, b1, b2, y_fgo_s hi (show p < 12 by omega), nI_1]
    exact ih
theorem M46 {i : Nat} (hi : i < 12) : z_cV 1 46 [.inr (.inr (some 8)), .inl (nI i)] (z_mk L Dh S R nx sl) = some (z_mk L Dh (y_fgo S i 12) R nx sl) := by
  have := M46_2 (L := L) (Dh := Dh) (S := S) (R := R) (nx := nx) (sl := sl) hi 12 0 (by omega)
  rw [y_fgo_0] at this
  rw [E46]
  exact this
/-- one mover is another one now -/
theorem J_upd {S' : Nat → Nat → Int32} {m : y_Mv} {i : Nat} (J : J_mov ms ad Dh S R nx) (hi : i < ms.length) (hm : y_mok m) (e1 : S' 8 3 = S 8 3) (e2 : S' 52 2 = S 52 2) (hc : y_cM Dh R S' (ad i) m) (hM : y_mM S' i m) (hb : ∀ b, 87 ≤ b → b < ad i ∨ ad i + 6 ≤ b → S' b = S b) (hj : ∀ j, j ≠ i → j < 12 → S' 55 j = S 55 j ∧ S' 56 j = S 56 j ∧ S' 57 j = S 57 j ∧ S' 58 j = S 58 j ∧ S' 59 j = S 59 j ∧ S' 60 j = S 60 j ∧ S' 61 j = S 61 j ∧ ∀ k r, k < 10 → r < 4 → S' 62 ((j * 10 + k) * 4 + r) = S 62 ((j * 10 + k) * 4 + r)) : J_mov (ms.set i m) ad Dh S' R nx := by
  obtain ⟨h1, h2, h3, h4, h5⟩ := J
  have hl : (ms.set i m).length = ms.length := List.length_set ..
  refine ⟨by rw [hl]; exact h1, by rw [hl, e1]; exact h2, by rw [hl, e2]; exact h3, fun j hj2 => ?_, fun p q hpq hq => h5 p q hpq (by rw [hl] at hq; exact hq)⟩
  have hj3 : j < ms.length := by rw [hl] at hj2; exact hj2
  obtain ⟨k1, k2, k3, k4, k5⟩ := h4 j hj3
  by_cases c : i = j
  · subst c
    rw [List.getElem_set_self]
    exact ⟨k1, k2, hm, hc, hM⟩
  · rw [List.getElem_set_ne c]
    have h87 := k4.1.1
    refine ⟨k1, k2, k3, y_cM_fr k4 (fun b hb1 hb2 => hb b (by omega) ?_), ?_⟩
    · rcases Nat.lt_or_gt_of_ne c with q | q
      · have := h5 i j q hj3; omega
      · have := h5 j i q hi; omega
    · obtain ⟨f1, f2, f3, f4, f5, f6, f7, f8⟩ := hj j (fun q => c q.symm) (by omega)
      obtain ⟨g1, g2, g3, g4, g5, g6, g7, g8⟩ := k5
      refine ⟨f1.trans g1, f2.trans g2, f3.trans g3, f4.trans g4, f5.trans g5, f6.trans g6, f7.trans g7, fun k hk => ?_⟩
      have k10 : k < 10 := by have := k3.2.2.2.2.2.1; omega
      rw [f8 k 0 k10 (by omega), f8 k 1 k10 (by omega), f8 k 2 k10 (by omega), f8 k 3 k10 (by omega)]
      exact g8 k hk
theorem J_hit_upd {S' : Nat → Nat → Int32} {m : y_Mv} {i : Nat} (J : J_hit ms S) (h12 : ms.length ≤ 12) (hi : i < ms.length) (e : ∀ q, S' 12 q = y_fgo S i 12 12 q) : J_hit (ms.set i m) S' := by
  intro p q hpq hq
  have hq2 : q < ms.length := by rw [List.length_set] at hq; exact hq
  rw [e, y_fgo_12]
  by_cases c : i = p ∨ i = q
  · left
    rw [if_pos (by omega)]
  · rw [if_neg (by omega), List.getElem_set_ne (by omega), List.getElem_set_ne (by omega)]
    exact J p q hpq hq2
theorem J_ed_up {ms' : List y_Mv} {S' : Nat → Nat → Int32} {k : Nat} (hk : k < 100000) (J : J_ed k ms S) (e1 : S' 52 49 = S 52 49 + 1) (e2 : S' 52 50 = S 52 50) : J_ed (k + 1) ms' S' := by
  obtain ⟨e, h1, h2, h3, -⟩ := J
  refine ⟨e + 1, by omega, by rw [e1, h2]; exact nI_1 e, ?_, fun q => ?_⟩
  · rw [e2]
    rcases h3 with h | ⟨f, h4, h5⟩
    · exact Or.inl h
    · exact Or.inr ⟨f, by omega, h5⟩
  · rw [e2] at q
    rcases h3 with h | ⟨f, h4, h5⟩
    · rw [h, z_eq, z_nI (by omega)] at q
      have : (-1 : Int32).toInt = -1 := rfl
      omega
    · rw [h5, nI_eq (by omega) (by omega)] at q
      omega
theorem J_ed_fr {S' : Nat → Nat → Int32} {k : Nat} (J : J_ed k ms S) (e1 : S' 52 49 = S 52 49) (e2 : S' 52 50 = S 52 50) (e3 : S' 85 = S 85) : J_ed (k + 1) ms S' := by
  obtain ⟨e, h1, h2, h3, h4⟩ := J
  refine ⟨e, by omega, e1.trans h2, by rw [e2]; exact h3, ?_⟩
  rw [e2, e3]
  exact h4
theorem J_hit_fr {S' : Nat → Nat → Int32} (J : J_hit ms S) (e : S' 12 = S 12) : J_hit ms S' := by unfold J_hit; rw [e]; exact J
/-- what stands behind a call that may change a mover -/
def J_post (k : Nat) (ad : Nat → Nat) (Dh : Nat → z_Sh) (R : Nat → Nat → Option Nat) (nx : Nat) (S S' : Nat → Nat → Int32) : Prop := I_ref S' ∧ (∃ ms, J_mov ms ad Dh S' R nx ∧ J_hit ms S' ∧ J_ed (k + 1) ms S') ∧ ∀ b, 87 ≤ b → y_nm Dh b → S' b = S b
theorem J_post_no {k : Nat} {c : Int32} (h_I_ref : I_ref S) (J : J_mov ms ad Dh S R nx) (H : J_hit ms S) (E : J_ed k ms S) (hc : z_code c) : J_post k ad Dh R nx S (z_no 86 (z_no 7 S c) c) := by
  refine ⟨z_no_ref h_I_ref hc, ⟨ms, J_mov_fr (J_mov_fr J (y_ms_no (Or.inl rfl))) (y_ms_no (Or.inr rfl)), J_hit_fr H rfl, J_ed_fr E rfl rfl rfl⟩, fun b hb _ => ?_⟩
  show z_no 86 (z_no 7 S c) c b = S b
  unfold z_no
  rw [z_ups_ne (by omega), z_ups_ne (by omega)]
theorem y_lgC_fld {a k : Nat} {x : Int32} {lg : List y_Lg} (h : y_lgC a S lg) (hk : k ≠ 5) : y_lgC a (z_ups S a k x) lg := by
  refine ⟨h.1, ?_, fun j hj => ?_⟩
  · rw [z_upsE, if_pos rfl, if_neg (fun q => hk q.symm)]; exact h.2.1
  · rw [z_ups_ne (by omega), z_ups_ne (by omega), z_ups_ne (by omega), z_ups_ne (by omega)]; exact h.2.2 j hj
/-- a new cue: the class's mover -/
theorem M28 {a : Nat} {m : y_Mv} (hD : I_dir S) (C : y_cM Dh R S a m) (hm : y_mok m) {t l : Nat} (ht : t ≤ 600) (hl : l ≤ 9) : ∃ S', z_cI 4 28 [.inr (.inr (some a)), .inl (nI t), .inl (nI l)] (z_mk L Dh S R nx sl) = some (nI m.2.2.2.1, z_mk L Dh S' R nx sl) ∧ y_cM Dh R S' a (m.1, m.2.1, m.2.2.1, t, l, m.2.2.2.2.2) ∧ ∀ b, b ≠ a → b ≠ a + 5 → S' b = S b := by
  obtain ⟨c1, c2, c3, c4, c5, c6, c7, c8, c9, c10, c11⟩ := C
  obtain ⟨m1, m2, m3, m4, m5, m6, m7⟩ := hm
  have h87 := c1.1
  have hD2 : I_dir (z_ups (z_ups S a 3 (nI t)) a 4 (nI l)) := I_dir_fr hD ⟨by rw [z_ups_ne (by omega), z_ups_ne (by omega)], by rw [z_ups_ne (by omega), z_ups_ne (by omega)]⟩
  obtain ⟨S', F', e1, e2, e3, e4, e5, e6, e7⟩ := M31 (L := L) (nx := nx) (sl := sl) (S := z_ups (z_ups S a 3 (nI t)) a 4 (nI l)) c1 (c := m.2.2.1) (τ := t) hD2 (y_lgC_fld (y_lgC_fld c7 (by decide)) (by decide)) m3 m7 ht (by rw [z_upsE, if_pos rfl, if_neg (by decide), z_upsE, if_pos rfl, if_neg (by decide)]; exact c4) (by rw [z_upsE, if_pos rfl, if_neg (by decide), z_upsE, if_pos rfl, if_pos rfl]) (fun q => by rw [z_upsE, if_pos rfl, if_neg (by decide), z_upsE, if_pos rfl, if_neg (by decide)]; exact c10 q)
  have g : ∀ k, k ≠ 7 → k ≠ 3 → k ≠ 4 → S' a k = S a k := fun k q1 q2 q3 => by rw [e2.2 k q1, z_upsE, if_pos rfl, if_neg q3, z_upsE, if_pos rfl, if_neg q2]
  refine ⟨S', ?_, ⟨c1, (g 0 (by decide) (by decide) (by decide)).trans c2, (g 1 (by decide) (by decide) (by decide)).trans c3, (g 2 (by decide) (by decide) (by decide)).trans c4, ?_, ?_, y_lgC_wf (y_lgC_fld (y_lgC_fld c7 (by decide)) (by decide)) e2, (g 6 (by decide) (by decide) (by decide)).trans c8, e4, fun q => ?_, F', e3, e6, e5⟩, fun b q1 q2 => by rw [e2.1 b q1 q2, z_ups_ne q1, z_ups_ne q1]⟩
  · rw [E28]
    simp only [y_g3 c1, y_p3 c1, y_p4 c1, y_ob c1, z_bs, c5, e1]
  · rw [e2.2 3 (by decide), z_upsE, if_pos rfl, if_neg (by decide), z_upsE, if_pos rfl, if_pos rfl]
  · rw [e2.2 4 (by decide), z_upsE, if_pos rfl, if_pos rfl]
  · rw [e6, e7 q]; rfl
end ZSH
