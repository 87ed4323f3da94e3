section ZSP
variable {L : Nat} {Dh : Nat → z_Sh} {S : Nat → Nat → Int32} {R : Nat → Nat → Option Nat} {nx sl : Nat}
variable {ms : List y_Mv} {ad : Nat → Nat}
/-! spreading and weeding -/
def y_fl (S : Nat → Nat → Int32) (a n : Nat) (f : Nat → Int32) : Nat → Nat → Int32 := fun b => if b = a then (fun q => if q < n then f q else S a q) else S b
theorem y_fl_ne {a n b : Nat} {f : Nat → Int32} (h : b ≠ a) : y_fl S a n f b = S b := by unfold y_fl; rw [if_neg h]
theorem y_fl_a {a n q : Nat} {f : Nat → Int32} : y_fl S a n f a q = if q < n then f q else S a q := by unfold y_fl; rw [if_pos rfl]
theorem y_fl_0 {a : Nat} {f : Nat → Int32} : y_fl S a 0 f = S := by
  funext b q
  by_cases c : b = a
  · subst c; rw [y_fl_a, if_neg (by omega)]
  · rw [y_fl_ne c]
theorem y_fl_s {a n : Nat} {f : Nat → Int32} : z_ups (y_fl S a n f) a n (f n) = y_fl S a (n + 1) f := by
  funext b q
  by_cases c : b = a
  · subst c
    rw [z_upsE, if_pos rfl, y_fl_a, y_fl_a]
    by_cases d : q = n
    · rw [if_pos d, if_pos (by omega), d]
    · rw [if_neg d]
      by_cases e : q < n
      · rw [if_pos e, if_pos (by omega)]
      · rw [if_neg e, if_neg (by omega)]
  · rw [z_ups_ne c, y_fl_ne c, y_fl_ne c]
theorem y_fl_k {a n : Nat} {f : Nat → Int32} (h : S a n = f n) : y_fl S a (n + 1) f = y_fl S a n f := by
  funext b q
  by_cases c : b = a
  · subst c
    rw [y_fl_a, y_fl_a]
    by_cases d : q = n
    · rw [d, if_pos (by omega), if_neg (by omega), h]
    · by_cases e : q < n
      · rw [if_pos (by omega), if_pos e]
      · rw [if_neg (by omega), if_neg e]
  · rw [y_fl_ne c, y_fl_ne c]
def y_wide (r : Nat → Int32) (y : Nat) : Int32 := if y = 0 then r 0 ||| r 1 else if 19 ≤ y then r y ||| r (y - 1) else (r y ||| r (y - 1)) ||| r (y + 1)
def y_nx (r cv : Nat → Int32) (y : Nat) : Int32 := (((y_wide r y ||| ((y_wide r y <<< ((1 : Int32) &&& 31)) ||| (y_wide r y >>> ((1 : Int32) &&& 31)))) &&& (1048575 : Int32)) &&& (cv y ^^^ (-1 : Int32))) ||| r y
def y_spr (H C : Nat → Bool) (o : Nat) : Bool := H o || (!C o && y_an (fun c => H c && decide (y_far c o ≤ 1)) 400)
theorem y_wide_iff {r : Nat → Int32} {H : Nat → Bool} (h : y_rows r H) {x y : Nat} (hx : x < 20) (hy : y < 20) : z_bt (y_wide r y) x = true ↔ ∃ y', y' < 20 ∧ y' ≤ y + 1 ∧ y ≤ y' + 1 ∧ H (20 * y' + x) = true := by
  have a0 := y_rows_at h hx hy
  unfold y_wide
  by_cases c0 : y = 0
  · subst c0
    have a1 := y_rows_at h hx (show 1 < 20 by decide)
    rw [if_pos rfl, z_bt_or, a0, a1, Bool.or_eq_true]
    constructor
    · rintro (q | q)
      · exact ⟨0, by omega, by omega, by omega, q⟩
      · exact ⟨1, by omega, by omega, by omega, q⟩
    · rintro ⟨y', h1, h2, h3, h4⟩
      rcases (show y' = 0 ∨ y' = 1 by omega) with rfl | rfl
      · exact Or.inl h4
      · exact Or.inr h4
  · rw [if_neg c0]
    have a1 := y_rows_at h hx (show y - 1 < 20 by omega)
    by_cases c1 : 19 ≤ y
    · rw [if_pos c1, z_bt_or, a0, a1, Bool.or_eq_true]
      constructor
      · rintro (q | q)
        · exact ⟨y, by omega, by omega, by omega, q⟩
        · exact ⟨y - 1, by omega, by omega, by omega, q⟩
      · rintro ⟨y', h1, h2, h3, h4⟩
        rcases (show y' = y ∨ y' = y - 1 by omega) with rfl | rfl
        · exact Or.inl h4
        · exact Or.inr h4
    · have a2 := y_rows_at h hx (show y + 1 < 20 by omega)
      rw [if_neg c1, z_bt_or, z_bt_or, a0, a1, a2, Bool.or_eq_true, Bool.or_eq_true]
      constructor
      · rintro ((q | q) | q)
        · exact ⟨y, by omega, by omega, by omega, q⟩
        · exact ⟨y - 1, by omega, by omega, by omega, q⟩
        · exact ⟨y + 1, by omega, by omega, by omega, q⟩
      · rintro ⟨y', h1, h2, h3, h4⟩
        rcases (show y' = y ∨ y' = y - 1 ∨ y' = y + 1 by omega) with rfl | rfl | rfl
        · exact Or.inl (Or.inl h4)
        · exact Or.inl (Or.inr h4)
        · exact Or.inr h4
theorem y_wide_ge {r : Nat → Int32} {H : Nat → Bool} (h : y_rows r H) {x y : Nat} (hx : 20 ≤ x) (hy : y < 20) : z_bt (y_wide r y) x = false := by
  unfold y_wide
  by_cases c0 : y = 0
  · rw [if_pos c0, z_bt_or, h.2 0 x (by omega) hx, h.2 1 x (by omega) hx]; rfl
  · rw [if_neg c0]
    by_cases c1 : 19 ≤ y
    · rw [if_pos c1, z_bt_or, h.2 y x hy hx, h.2 (y - 1) x (by omega) hx]; rfl
    · rw [if_neg c1, z_bt_or, z_bt_or, h.2 y x hy hx, h.2 (y - 1) x (by omega) hx, h.2 (y + 1) x (by omega) hx]; rfl
theorem z_bt_all : ∀ j, j < 32 → z_bt 1048575 j = decide (j < 20) := by decide +kernel
theorem y_nx_rows {r cv : Nat → Int32} {H C : Nat → Bool} (h : y_rows r H) (hc : y_rows cv C) {f : Nat → Int32} (hf : ∀ y, y < 20 → f y = y_nx r cv y) : y_rows f (y_spr H C) := by
  refine y_rows_mk (fun x y hx hy => ?_) (fun y j hy hj hj2 => ?_)
  · rw [hf y hy]
    unfold y_nx
    have s1 : z_bt (y_wide r y <<< ((1 : Int32) &&& 31)) x = (decide (1 ≤ x) && z_bt (y_wide r y) (x - 1)) := z_bt_shl (k := 1) (by omega) (by omega)
    have s2 : z_bt (y_wide r y >>> ((1 : Int32) &&& 31)) x = z_bt (y_wide r y) (1 + x) := z_bt_shr (k := 1) (by omega) (by omega)
    rw [z_bt_or, z_bt_and, z_bt_and, z_bt_or, z_bt_or, s1, s2, z_bt_all x (by omega), z_bt_not (by omega), y_rows_at hc hx hy, y_rows_at h hx hy, decide_eq_true hx, Bool.and_true]
    unfold y_spr
    rw [Bool.or_comm, Bool.and_comm]
    congr 2
    rw [Bool.eq_iff_iff, Bool.or_eq_true, Bool.or_eq_true, Bool.and_eq_true, decide_eq_true_iff, y_an_iff, y_wide_iff h hx hy]
    constructor
    · intro q
      have fin : ∀ x' y', x' < 20 → y' < 20 → x' ≤ x + 1 → x ≤ x' + 1 → y' ≤ y + 1 → y ≤ y' + 1 → H (20 * y' + x') = true → ∃ c, c < 400 ∧ (H c && decide (y_far c (20 * y + x) ≤ 1)) = true := fun x' y' q1 q2 q3 q4 q5 q6 q7 => ⟨20 * y' + x', by omega, by
        rw [q7, Bool.true_and]
        refine decide_eq_true ?_
        unfold y_far
        rw [show (20 * y' + x') % 20 = x' by omega, show (20 * y + x) % 20 = x by omega, show (20 * y' + x') / 20 = y' by omega, show (20 * y + x) / 20 = y by omega]
        omega⟩
      rcases q with ⟨y', w1, w2, w3, w4⟩ | ⟨w0, q⟩ | q
      · exact fin x y' hx w1 (by omega) (by omega) w2 w3 w4
      · obtain ⟨y', w1, w2, w3, w4⟩ := (y_wide_iff h (show x - 1 < 20 by omega) hy).mp q
        exact fin (x - 1) y' (by omega) w1 (by omega) (by omega) w2 w3 w4
      · by_cases e : x + 1 < 20
        · rw [show 1 + x = x + 1 by omega] at q
          obtain ⟨y', w1, w2, w3, w4⟩ := (y_wide_iff h e hy).mp q
          exact fin (x + 1) y' e w1 (by omega) (by omega) w2 w3 w4
        · rw [y_wide_ge h (by omega) hy] at q
          cases q
    · rintro ⟨c, h1, h2⟩
      rw [Bool.and_eq_true, decide_eq_true_iff] at h2
      obtain ⟨h2, h3⟩ := h2
      unfold y_far at h3
      rw [show (20 * y + x) % 20 = x by omega, show (20 * y + x) / 20 = y by omega] at h3
      have hcc : 20 * (c / 20) + c % 20 = c := by omega
      have hw : z_bt (y_wide r y) (c % 20) = true := (y_wide_iff h (by omega) hy).mpr ⟨c / 20, by omega, by omega, by omega, by rw [hcc]; exact h2⟩
      rcases (show c % 20 = x ∨ c % 20 = x - 1 ∧ 1 ≤ x ∨ c % 20 = x + 1 by omega) with e | ⟨e, e2⟩ | e
      · left; rw [e] at hw; exact (y_wide_iff h hx hy).mp hw
      · right; left; rw [e] at hw; exact ⟨e2, hw⟩
      · right; right; rw [e, Nat.add_comm] at hw; exact hw
  · rw [hf y hy]
    unfold y_nx
    rw [z_bt_or, z_bt_and, z_bt_and, z_bt_all j hj2, decide_eq_false (by omega), h.2 y j hy hj, Bool.and_false, Bool.false_and]
    rfl
theorem M53_2 : ∀ (j y : Nat), y + j = 20 → L53_2 (some 8) (nI y) (z_mk L Dh (y_fl S 14 y (y_nx (S 13) (S 9))) R nx sl) = L53_91 (some 8) 0 (z_mk L Dh (y_fl S 14 20 (y_nx (S 13) (S 9))) R nx sl) := by
  intro j
  induction j with
  | zero =>
    intro y hy
    obtain rfl : y = 20 := by omega
    rw [E53_2, if_pos (show (20 : Int32) ≤ nI 20 by decide)]
  | succ j ih =>
    intro y hy
    have ih := ih (y + 1) (by omega)
    have y1 : z_in (nI y) 20 = true := z_in_nI (by omega) (by decide)
    have y2 : (nI y).toNatClampNeg = y := z_cl (by omega)
    have n13 : y_fl S 14 y (y_nx (S 13) (S 9)) 13 = S 13 := y_fl_ne (by decide)
    have n9 : y_fl S 14 y (y_nx (S 13) (S 9)) 9 = S 9 := y_fl_ne (by decide)
    have e47 : L53_47 (some 8) (nI y) (y_wide (S 13) y) (z_mk L Dh (y_fl S 14 y (y_nx (S 13) (S 9))) R nx sl) = L53_91 (some 8) 0 (z_mk L Dh (y_fl S 14 20 (y_nx (S 13) (S 9))) R nx sl) := by
      rw [E53_47]
      simp only [g_8_10, g_8_0, g_8_9, z_bs, l_9 y1, l_13 y1, s_14 y1, y2, n13, n9, nI_1]
      rw [show ((((y_wide (S 13) y ||| ((y_wide (S 13) y <<< ((1 : Int32) &&& 31)) ||| (y_wide (S 13) y >>> ((1 : Int32) &&& 31)))) &&& (1048575 : Int32)) &&& (S 9 y ^^^ (-1 : Int32))) ||| S 13 y) = y_nx (S 13) (S 9) y from rfl, y_fl_s]
      exact ih
    rw [E53_2, if_neg (show ¬ (20 : Int32) ≤ nI (y) from nI_ge (a := y) (b := 20) (by omega) (by decide))]
    simp only [g_8_9, z_bs, l_13 y1, y2, n13, nI_1]
    by_cases c0 : y = 0
    · subst c0
      rw [if_pos (show nI 0 ≤ (0 : Int32) by decide), if_neg (show ¬ (19 : Int32) ≤ nI 0 by decide), l_13 (z_in_nI (show 0 + 1 < 20 by decide) (by decide)), z_cl (by decide)]
      simp only [z_bs, n13]
      exact e47
    · rw [if_neg (show ¬ nI y ≤ (0 : Int32) from nI_ge (a := 0) (b := y) (by omega) (by omega)), show nI y - (1 : Int32) = nI (y - 1) from z_nI_sub (a := y) (b := 1) (by omega), l_13 (z_in_nI (show y - 1 < 20 by omega) (by decide)), z_cl (show y - 1 < 2147483648 by omega)]
      simp only [z_bs, n13]
      unfold y_wide at e47
      rw [if_neg c0] at e47
      by_cases c1 : 19 ≤ y
      · rw [if_pos (show (19 : Int32) ≤ nI y from nI_le (a := 19) c1 (by omega))]
        rw [if_pos c1] at e47
        exact e47
      · rw [if_neg (show ¬ (19 : Int32) ≤ nI y from nI_ge (b := 19) (by omega) (by decide)), l_13 (z_in_nI (show y + 1 < 20 by omega) (by decide)), z_cl (show y + 1 < 2147483648 by omega)]
        simp only [z_bs, n13]
        rw [if_neg c1] at e47
        exact e47
theorem M53_91 : ∀ (j y : Nat), y + j = 20 → L53_91 (some 8) (nI y) (z_mk L Dh (y_fl S 13 y (S 14)) R nx sl) = some (z_mk L Dh (y_fl S 13 20 (S 14)) R nx sl) := by
  intro j
  induction j with
  | zero =>
    intro y hy
    obtain rfl : y = 20 := by omega
    rw [E53_91, if_pos (show (20 : Int32) ≤ nI 20 by decide)]
  | succ j ih =>
    intro y hy
    have y1 : z_in (nI y) 20 = true := z_in_nI (by omega) (by decide)
    have y2 : (nI y).toNatClampNeg = y := z_cl (by omega)
    rw [E53_91, if_neg (show ¬ (20 : Int32) ≤ nI (y) from nI_ge (a := y) (b := 20) (by omega) (by decide))]
    simp only [g_8_9, g_8_10, z_bs, l_14 y1, s_13 y1, y2, y_fl_ne (show (14 : Nat) ≠ 13 by decide), y_fl_s, nI_1]
    exact ih (y + 1) (by omega)
theorem M53 {H C : Nat → Bool} (hH : y_rows (S 13) H) (hC : y_rows (S 9) C) : ∃ S', z_cV 1 53 [.inr (.inr (some 8))] (z_mk L Dh S R nx sl) = some (z_mk L Dh S' R nx sl) ∧ y_rows (S' 13) (y_spr H C) ∧ ∀ b, b ≠ 13 → b ≠ 14 → S' b = S b := by
  have h1 := M53_2 (L := L) (Dh := Dh) (S := S) (R := R) (nx := nx) (sl := sl) 20 0 (by omega)
  have h2 := M53_91 (L := L) (Dh := Dh) (S := y_fl S 14 20 (y_nx (S 13) (S 9))) (R := R) (nx := nx) (sl := sl) 20 0 (by omega)
  rw [y_fl_0] at h1 h2
  refine ⟨_, by rw [E53, show (0 : Int32) = nI 0 from rfl, h1, show (0 : Int32) = nI 0 from rfl, h2], y_nx_rows hH hC (fun y hy => ?_), fun b q1 q2 => by rw [y_fl_ne q1, y_fl_ne q2]⟩
  rw [y_fl_a, if_pos hy, y_fl_a, if_pos hy]
/-! the model: weeding -/
def y_wd (H : Nat → Bool) (ms : List y_Mv) (sz t c : Nat) : Bool := H c && !y_dg ms sz t c
theorem M155_11 {l : List (Nat × Nat)} {H V : Nat → Bool} {sz t : Nat} (hl : l.length ≤ 120) (P : y_pl S l) (hd : ∀ c, l.any (y_nr c) = y_dg ms sz t c) (hH : y_bo (S 83) H) (hV : y_bo (S 54) V) : ∀ (j c : Nat) (v : Bool), c + j = 400 → v = y_an (fun q => y_wd H ms sz t q && V q) c → L155_11 (some 52) (if v = true then 1 else 0) (nI c) (z_mk L Dh (y_fl S 83 c (fun q => if y_wd H ms sz t q = true then 1 else 0)) R nx sl) = some (if y_an (fun q => y_wd H ms sz t q && V q) 400 = true then 1 else 0, z_mk L Dh (y_fl S 83 400 (fun q => if y_wd H ms sz t q = true then 1 else 0)) R nx sl) := by
  intro j
  induction j with
  | zero =>
    intro c v hc hv
    obtain rfl : c = 400 := by omega
    rw [E155_11, if_pos (show (400 : Int32) ≤ nI 400 by decide), ← hv]
    cases v
    · exact if_pos (Or.inl rfl)
    · exact if_pos (Or.inr rfl)
  | succ j ih =>
    intro c v hc hv
    have hc4 : c < 400 := by omega
    have c1 : z_in (nI c) 400 = true := z_in_nI hc4 (by decide)
    have c2 : (nI c).toNatClampNeg = c := z_cl (by omega)
    have ih := fun w hw => ih (c + 1) w (by omega) hw
    have hs := y_an_s (fun q => y_wd H ms sz t q && V q) c
    have r83 : y_fl S 83 c (fun q => if y_wd H ms sz t q = true then 1 else 0) 83 c = if H c = true then 1 else 0 := by rw [y_fl_a, if_neg (by omega)]; exact hH c hc4
    have r54 : y_fl S 83 c (fun q => if y_wd H ms sz t q = true then 1 else 0) 54 c = if V c = true then 1 else 0 := by rw [y_fl_ne (by decide)]; exact hV c hc4
    have P2 : y_pl (y_fl S 83 c (fun q => if y_wd H ms sz t q = true then 1 else 0)) l := by
      unfold y_pl
      rw [y_fl_ne (by decide), y_fl_ne (by decide), y_fl_ne (by decide)]
      exact P
    rw [E155_11, if_neg (show ¬ (400 : Int32) ≤ nI (c) from nI_ge (a := c) (b := 400) (by omega) (by decide))]
    simp only [g_52_47, g_52_1, o_52, z_bs, l_83 c1, l_54 c1, c2, r83, r54, M153 hl P2 hc4, hd c, nI_1, s_83 c1 (Or.inl rfl)]
    have hwd : y_wd H ms sz t c = (H c && !y_dg ms sz t c) := rfl
    by_cases h1 : H c = true
    · rw [if_pos h1, if_pos (by decide)]
      by_cases h2 : y_dg ms sz t c = true
      · have w0 : y_wd H ms sz t c = false := by rw [hwd, h2, Bool.not_true, Bool.and_false]
        rw [if_pos h2, if_neg (by decide)]
        have e : z_ups (y_fl S 83 c (fun q => if y_wd H ms sz t q = true then (1 : Int32) else 0)) 83 c 0 = y_fl S 83 (c + 1) (fun q => if y_wd H ms sz t q = true then (1 : Int32) else 0) := by
          rw [← y_fl_s]
          simp only [w0, z_ff, z_iF]
        rw [e]
        exact ih v (by rw [hs, w0, Bool.false_and, Bool.or_false]; exact hv)
      · have h2' := Bool.eq_false_iff.mpr h2
        have w1 : y_wd H ms sz t c = true := by rw [hwd, h1, h2']; rfl
        have e := y_fl_k (S := S) (a := 83) (n := c) (f := fun q => if y_wd H ms sz t q = true then (1 : Int32) else 0) (by rw [hH c hc4, w1, h1])
        rw [if_neg h2, if_pos rfl, ← e]
        by_cases h3 : V c = true
        · rw [if_pos h3, if_neg (by decide)]
          exact ih true (by rw [hs, w1, h3]; simp)
        · have h3' := Bool.eq_false_iff.mpr h3
          rw [if_neg h3, if_pos rfl]
          exact ih v (by rw [hs, h3', Bool.and_false, Bool.or_false]; exact hv)
    · have h1' := Bool.eq_false_iff.mpr h1
      have w0 : y_wd H ms sz t c = false := by rw [hwd, h1', Bool.false_and]
      have e := y_fl_k (S := S) (a := 83) (n := c) (f := fun q => if y_wd H ms sz t q = true then (1 : Int32) else 0) (by rw [hH c hc4, w0, h1'])
      rw [if_neg h1, if_neg (fun q => q rfl), ← e]
      exact ih v (by rw [hs, w0, Bool.false_and, Bool.or_false]; exact hv)
/-- nothing but what weeding and spreading write in the model -/
def y_wf2 (S S' : Nat → Nat → Int32) : Prop := (∀ b, b ≠ 81 → b ≠ 82 → b ≠ 83 → b ≠ 84 → b ≠ 52 → S' b = S b) ∧ (∀ q, q ≠ 46 → S' 52 q = S 52 q)
theorem y_wf2_id : y_wf2 S S := ⟨fun _ _ _ _ _ _ => rfl, fun _ _ => rfl⟩
theorem y_wf2_tr {S1 S2 : Nat → Nat → Int32} (h1 : y_wf2 S S1) (h2 : y_wf2 S1 S2) : y_wf2 S S2 := ⟨fun b x y z u v => (h2.1 b x y z u v).trans (h1.1 b x y z u v), fun q hq => (h2.2 q hq).trans (h1.2 q hq)⟩
theorem J_mov_wf2 {S' : Nat → Nat → Int32} (J : J_mov ms ad Dh S R nx) (e : y_wf2 S S') : J_mov ms ad Dh S' R nx := J_mov_fr J ⟨by rw [e.1 8 (by decide) (by decide) (by decide) (by decide) (by decide)], e.2 2 (by decide), e.1 55 (by decide) (by decide) (by decide) (by decide) (by decide), e.1 56 (by decide) (by decide) (by decide) (by decide) (by decide), e.1 57 (by decide) (by decide) (by decide) (by decide) (by decide), e.1 58 (by decide) (by decide) (by decide) (by decide) (by decide), e.1 59 (by decide) (by decide) (by decide) (by decide) (by decide), e.1 60 (by decide) (by decide) (by decide) (by decide) (by decide), e.1 61 (by decide) (by decide) (by decide) (by decide) (by decide), e.1 62 (by decide) (by decide) (by decide) (by decide) (by decide), fun b hb => e.1 b (by omega) (by omega) (by omega) (by omega) (by omega)⟩
theorem M155 (J : J_mov ms ad Dh S R nx) {b T : Nat} (hb : b < ms.length) (hT : T < 10000) {H V : Nat → Bool} (hH : y_bo (S 83) H) (hV : y_bo (S 54) V) : ∃ S', z_cI 5 155 [.inr (.inr (some 52)), .inl (nI T), .inl (nI b)] (z_mk L Dh S R nx sl) = some (if y_an (fun q => y_wd H ms (ms[b]).2.1 (min T 600) q && V q) 400 = true then 1 else 0, z_mk L Dh S' R nx sl) ∧ y_bo (S' 83) (y_wd H ms (ms[b]).2.1 (min T 600)) ∧ y_wf2 S S' := by
  obtain ⟨S1, e1, e2, e3⟩ := M152 (L := L) (sl := sl) J hb hT
  have h := M155_11 (L := L) (Dh := Dh) (R := R) (nx := nx) (sl := sl) (ms := ms) (y_cl_120 J _ _) e2 (fun c => y_cl_any _ _ c ms) (H := H) (V := V) (by rw [e3.1 83 (by decide) (by decide) (by decide)]; exact hH) (by rw [e3.1 54 (by decide) (by decide) (by decide)]; exact hV) 400 0 false (by omega) rfl
  rw [y_fl_0] at h
  refine ⟨y_fl S1 83 400 (fun q => if y_wd H ms (ms[b]).2.1 (min T 600) q = true then 1 else 0), ?_, fun c hc => by rw [y_fl_a, if_pos hc], fun c x y z u v => by rw [y_fl_ne z, e3.1 c x y v], fun q hq => by rw [y_fl_ne (by decide)]; exact e3.2 q hq⟩
  rw [E155]
  simp only [o_52, z_bs, e1]
  exact h
/-! the model: spreading -/
theorem M156_2 : ∀ (j c : Nat), (∀ q, q < 400 → S 83 q = 0 ∨ S 83 q = 1) → c + j = 400 → L156_2 (some 52) (nI c) (z_mk L Dh (y_fl S 84 c (S 83)) R nx sl) = L156_29 (some 52) 0 (z_mk L Dh (y_fl S 84 400 (S 83)) R nx sl) := by
  intro j
  induction j with
  | zero =>
    intro c hb hc
    obtain rfl : c = 400 := by omega
    rw [E156_2, if_pos (show (400 : Int32) ≤ nI 400 by decide)]
  | succ j ih =>
    intro c hb hc
    have c1 : z_in (nI c) 400 = true := z_in_nI (by omega) (by decide)
    have c2 : (nI c).toNatClampNeg = c := z_cl (by omega)
    rw [E156_2, if_neg (show ¬ (400 : Int32) ≤ nI (c) from nI_ge (a := c) (b := 400) (by omega) (by decide))]
    simp only [g_52_47, g_52_48, z_bs, l_83 c1, c2, y_fl_ne (show (83 : Nat) ≠ 84 by decide), s_84 c1 (hb c (by omega)), y_fl_s, nI_1]
    exact ih (c + 1) hb (by omega)
theorem M156_95 : ∀ (j c : Nat), (∀ q, q < 400 → S 84 q = 0 ∨ S 84 q = 1) → c + j = 400 → L156_95 (some 52) (nI c) (z_mk L Dh (y_fl S 83 c (S 84)) R nx sl) = some (z_mk L Dh (y_fl S 83 400 (S 84)) R nx sl) := by
  intro j
  induction j with
  | zero =>
    intro c hb hc
    obtain rfl : c = 400 := by omega
    rw [E156_95, if_pos (show (400 : Int32) ≤ nI 400 by decide)]
  | succ j ih =>
    intro c hb hc
    have c1 : z_in (nI c) 400 = true := z_in_nI (by omega) (by decide)
    have c2 : (nI c).toNatClampNeg = c := z_cl (by omega)
    rw [E156_95, if_neg (show ¬ (400 : Int32) ≤ nI (c) from nI_ge (a := c) (b := 400) (by omega) (by decide))]
    simp only [g_52_47, g_52_48, z_bs, l_84 c1, c2, y_fl_ne (show (84 : Nat) ≠ 83 by decide), s_83 c1 (hb c (by omega)), y_fl_s, nI_1]
    exact ih (c + 1) hb (by omega)
def y_s8 (C : Nat → Bool) (c o : Nat) : Nat → Nat → Bool
  | 0, _ => false
  | j + 1, d => (y_onb c d 1 && decide (y_al c d 1 = o) && !C o) || y_s8 C c o j (d + 1)
theorem y_s8_s (C : Nat → Bool) (c o j d : Nat) : y_s8 C c o (j + 1) d = ((y_onb c d 1 && decide (y_al c d 1 = o) && !C o) || y_s8 C c o j (d + 1)) := rfl
theorem y_s8_iff {C : Nat → Bool} {c o : Nat} : ∀ (j d : Nat), y_s8 C c o j d = true ↔ C o = false ∧ ∃ i, d ≤ i ∧ i < d + j ∧ y_onP c i 1 ∧ y_al c i 1 = o
  | 0, d => by
    constructor
    · intro h; cases h
    · rintro ⟨-, i, h1, h2, -⟩; omega
  | j + 1, d => by
    rw [y_s8_s, Bool.or_eq_true, Bool.and_eq_true, Bool.and_eq_true, decide_eq_true_iff, y_on_iff, Bool.not_eq_true', y_s8_iff j (d + 1)]
    constructor
    · rintro (⟨⟨h1, h2⟩, h3⟩ | ⟨h0, i, h1, h2, h3, h4⟩)
      · exact ⟨h3, d, Nat.le_refl _, by omega, h1, h2⟩
      · exact ⟨h0, i, by omega, by omega, h3, h4⟩
    · rintro ⟨h0, i, h1, h2, h3, h4⟩
      by_cases q : i = d
      · left; rw [← q]; exact ⟨⟨h3, h4⟩, h0⟩
      · right; exact ⟨h0, i, by omega, by omega, h3, h4⟩
theorem y_spr_eq {H C : Nat → Bool} {o : Nat} (ho : o < 400) : (H o || y_an (fun c => H c && y_s8 C c o 8 0) 400) = y_spr H C o := by
  unfold y_spr
  rw [Bool.eq_iff_iff, Bool.or_eq_true, Bool.or_eq_true, Bool.and_eq_true, Bool.not_eq_true', y_an_iff, y_an_iff]
  constructor
  · rintro (h | ⟨c, h1, h2⟩)
    · exact Or.inl h
    · rw [Bool.and_eq_true, y_s8_iff] at h2
      obtain ⟨h2, h3, h4⟩ := h2
      have := (y_nb8 h1 ho).mp h4
      exact Or.inr ⟨h3, c, h1, by rw [h2, Bool.true_and]; exact decide_eq_true this.1⟩
  · rintro (h | ⟨h0, c, h1, h2⟩)
    · exact Or.inl h
    · rw [Bool.and_eq_true, decide_eq_true_iff] at h2
      by_cases q : c = o
      · left; rw [← q]; exact h2.1
      · right
        refine ⟨c, h1, ?_⟩
        rw [Bool.and_eq_true, y_s8_iff]
        exact ⟨h2.1, h0, (y_nb8 h1 ho).mpr ⟨h2.2, q⟩⟩
theorem M156_38 {H C : Nat → Bool} {c : Nat} (hc : c < 400) (hHc : H c = true) (hH : y_bo (S 83) H) (hC : y_bo (S 53) C) : ∀ (j d : Nat) (T : Nat → Nat → Int32) (G : Nat → Bool), d + j = 8 → (∀ b, b ≠ 84 → T b = S b) → y_bo (T 84) G → ∃ T', L156_38 (some 52) (nI c) (nI d) (z_mk L Dh T R nx sl) = L156_29 (some 52) (nI (c + 1)) (z_mk L Dh T' R nx sl) ∧ (∀ b, b ≠ 84 → T' b = S b) ∧ y_bo (T' 84) (fun o => G o || y_s8 C c o j d) := by
  have c1 : z_in (nI c) 400 = true := z_in_nI hc (by decide)
  have c2 : (nI c).toNatClampNeg = c := z_cl (by omega)
  intro j
  induction j with
  | zero =>
    intro d T G hd hT hG
    refine ⟨T, ?_, hT, fun o ho => by show T 84 o = if (G o || false) = true then 1 else 0; rw [Bool.or_false]; exact hG o ho⟩
    obtain rfl : d = 8 := by omega
    rw [E156_38, if_pos (show (8 : Int32) ≤ nI 8 by decide), nI_1]
  | succ j ih =>
    intro d T G hd hT hG
    have h83 : T 83 c = 1 := by rw [hT 83 (by decide), hH c hc, if_pos hHc]
    rw [E156_38, if_neg (show ¬ (8 : Int32) ≤ nI (d) from nI_ge (a := d) (b := 8) (by omega) (by decide))]
    simp only [g_52_47, g_52_0, g_52_48, o_52, z_bs, l_83 c1, c2, h83, z_10, z_iF, nI_1]
    have hM : z_cI 2 138 [.inr (.inr (some 52)), .inl (nI c), .inl (nI d), .inl (1 : Int32)] (z_mk L Dh T R nx sl) = some (if y_onb c d 1 = true then nI (y_al c d 1) else -1, z_mk L Dh T R nx sl) := M138 (k := 1) hc (show d < 8 by omega) (by decide)
    rw [hM]
    simp only [z_bs, g_52_0, g_52_48]
    by_cases q1 : y_onb c d 1 = true
    · have ha := y_al_lt (y_on_iff.mp q1)
      have a1 : z_in (nI (y_al c d 1)) 400 = true := z_in_nI ha (by decide)
      have a2 : (nI (y_al c d 1)).toNatClampNeg = y_al c d 1 := z_cl (by omega)
      rw [if_pos q1, if_neg (nI_pos (by omega)), l_53 a1, a2, hT 53 (by decide), hC _ ha]
      simp only [z_bs]
      by_cases q2 : C (y_al c d 1) = true
      · rw [if_pos q2, if_pos (by decide)]
        obtain ⟨T', e1, e2, e3⟩ := ih (d + 1) T G (by omega) hT hG
        refine ⟨T', e1, e2, fun o ho => ?_⟩
        rw [e3 o ho]
        show (if (G o || y_s8 C c o j (d + 1)) = true then (1 : Int32) else 0) = if (G o || y_s8 C c o (j + 1) d) = true then 1 else 0
        rw [y_s8_s]
        by_cases q3 : y_al c d 1 = o
        · rw [← q3, q2, Bool.not_true, Bool.and_false, Bool.false_or]
        · rw [decide_eq_false q3, Bool.and_false, Bool.false_and, Bool.false_or]
      · rw [if_neg q2, if_neg (fun q => q rfl), s_84 a1 (Or.inr rfl), a2]
        simp only [z_bs]
        obtain ⟨T', e1, e2, e3⟩ := ih (d + 1) (z_ups T 84 (y_al c d 1) 1) (fun o => G o || decide (o = y_al c d 1)) (by omega) (fun b hb => by rw [z_ups_ne hb, hT b hb]) (fun o ho => by
          rw [z_upsE, if_pos rfl]
          show (if o = y_al c d 1 then (1 : Int32) else T 84 o) = if (G o || decide (o = y_al c d 1)) = true then 1 else 0
          by_cases q : o = y_al c d 1
          · rw [if_pos q, decide_eq_true q, Bool.or_true, if_pos rfl]
          · rw [if_neg q, decide_eq_false q, Bool.or_false]; exact hG o ho)
        refine ⟨T', e1, e2, fun o ho => ?_⟩
        rw [e3 o ho]
        show (if ((G o || decide (o = y_al c d 1)) || y_s8 C c o j (d + 1)) = true then (1 : Int32) else 0) = if (G o || y_s8 C c o (j + 1) d) = true then 1 else 0
        rw [y_s8_s, q1, Bool.true_and]
        have q2' := Bool.eq_false_iff.mpr q2
        by_cases q : o = y_al c d 1
        · rw [decide_eq_true q, decide_eq_true q.symm, q, q2']; simp
        · rw [decide_eq_false q, decide_eq_false (fun w => q w.symm)]; simp
    · rw [if_neg q1, if_pos (by decide)]
      obtain ⟨T', e1, e2, e3⟩ := ih (d + 1) T G (by omega) hT hG
      refine ⟨T', e1, e2, fun o ho => ?_⟩
      rw [e3 o ho]
      show (if (G o || y_s8 C c o j (d + 1)) = true then (1 : Int32) else 0) = if (G o || y_s8 C c o (j + 1) d) = true then 1 else 0
      rw [y_s8_s, Bool.eq_false_iff.mpr q1, Bool.false_and, Bool.false_and, Bool.false_or]
theorem M156_29 {H C : Nat → Bool} (hH : y_bo (S 83) H) (hC : y_bo (S 53) C) : ∀ (j c : Nat) (T : Nat → Nat → Int32), c + j = 400 → (∀ b, b ≠ 84 → T b = S b) → y_bo (T 84) (fun o => H o || y_an (fun c => H c && y_s8 C c o 8 0) c) → ∃ T', L156_29 (some 52) (nI c) (z_mk L Dh T R nx sl) = L156_95 (some 52) 0 (z_mk L Dh T' R nx sl) ∧ (∀ b, b ≠ 84 → T' b = S b) ∧ y_bo (T' 84) (fun o => H o || y_an (fun c => H c && y_s8 C c o 8 0) 400) := by
  intro j
  induction j with
  | zero =>
    intro c T hc hT hG
    obtain rfl : c = 400 := by omega
    exact ⟨T, by rw [E156_29, if_pos (show (400 : Int32) ≤ nI 400 by decide)], hT, hG⟩
  | succ j ih =>
    intro c T hc hT hG
    have hc4 : c < 400 := by omega
    have c1 : z_in (nI c) 400 = true := z_in_nI hc4 (by decide)
    have c2 : (nI c).toNatClampNeg = c := z_cl (by omega)
    rw [E156_29, if_neg (show ¬ (400 : Int32) ≤ nI (c) from nI_ge (a := c) (b := 400) (by omega) (by decide))]
    by_cases q : H c = true
    · obtain ⟨T', e1, e2, e3⟩ := M156_38 (L := L) (Dh := Dh) (R := R) (nx := nx) (sl := sl) hc4 q hH hC 8 0 T _ (by omega) hT hG
      obtain ⟨T2, f1, f2, f3⟩ := ih (c + 1) T' (by omega) e2 (fun o ho => by
        rw [e3 o ho]
        show (if (H o || y_an (fun c => H c && y_s8 C c o 8 0) c || y_s8 C c o 8 0) = true then (1 : Int32) else 0) = if (H o || y_an (fun c => H c && y_s8 C c o 8 0) (c + 1)) = true then 1 else 0
        rw [y_an_s, q, Bool.true_and, Bool.or_assoc])
      exact ⟨T2, e1.trans f1, f2, f3⟩
    · have h83 : T 83 c = 0 := by rw [hT 83 (by decide), hH c hc4, if_neg q]
      obtain ⟨T2, f1, f2, f3⟩ := ih (c + 1) T (by omega) hT (fun o ho => by
        rw [hG o ho]
        show (if (H o || y_an (fun c => H c && y_s8 C c o 8 0) c) = true then (1 : Int32) else 0) = if (H o || y_an (fun c => H c && y_s8 C c o 8 0) (c + 1)) = true then 1 else 0
        rw [y_an_s, Bool.eq_false_iff.mpr q, Bool.false_and, Bool.or_false])
      refine ⟨T2, ?_, f2, f3⟩
      rw [E156_38, if_neg (by decide)]
      simp only [g_52_47, z_bs, l_83 c1, c2, h83, z_e00, z_iT, nI_1]
      exact f1
theorem M156 {H C : Nat → Bool} (hH : y_bo (S 83) H) (hC : y_bo (S 53) C) : ∃ S', z_cV 3 156 [.inr (.inr (some 52))] (z_mk L Dh S R nx sl) = some (z_mk L Dh S' R nx sl) ∧ y_bo (S' 83) (y_spr H C) ∧ ∀ b, b ≠ 83 → b ≠ 84 → S' b = S b := by
  have b01 : ∀ b : Bool, (if b = true then (1 : Int32) else 0) = 0 ∨ (if b = true then (1 : Int32) else 0) = 1 := fun b => by cases b <;> simp
  have h1 := M156_2 (L := L) (Dh := Dh) (S := S) (R := R) (nx := nx) (sl := sl) 400 0 (fun q hq => by rw [hH q hq]; exact b01 _) (by omega)
  rw [y_fl_0] at h1
  obtain ⟨T, e1, e2, e3⟩ := M156_29 (L := L) (Dh := Dh) (R := R) (nx := nx) (sl := sl) hH hC 400 0 (y_fl S 84 400 (S 83)) (by omega) (fun b hb => y_fl_ne hb) (fun o ho => by
    rw [y_fl_a, if_pos ho, hH o ho]
    show (if H o = true then (1 : Int32) else 0) = if (H o || false) = true then 1 else 0
    rw [Bool.or_false])
  have h2 := M156_95 (L := L) (Dh := Dh) (S := T) (R := R) (nx := nx) (sl := sl) 400 0 (fun q hq => by rw [e3 q hq]; exact b01 _) (by omega)
  rw [y_fl_0] at h2
  refine ⟨_, by rw [E156]; exact h1.trans (e1.trans h2), fun c hc => ?_, fun b q1 q2 => by rw [y_fl_ne q1, e2 b q2]⟩
  rw [y_fl_a, if_pos hc, e3 c hc]
  show (if (H c || y_an (fun d => H d && y_s8 C d c 8 0) 400) = true then (1 : Int32) else 0) = _
  rw [y_spr_eq hc]
end ZSP
