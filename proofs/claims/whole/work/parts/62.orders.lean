section ZSX
variable {L : Nat} {Dh : Nat → z_Sh} {S : Nat → Nat → Int32} {R : Nat → Nat → Option Nat} {nx sl : Nat}
/-! a day's orders: what they are worth -/
abbrev y_Bs : Type := Option (Int32 × Int32 × List Nat)
def y_ad : Nat → Int32 → Int32 → Int32
  | 0, v, _ => v
  | c + 1, v, t => y_ad c (v + t) t
theorem y_ad_s (c : Nat) (v t : Int32) : y_ad (c + 1) v t = y_ad c (v + t) t := rfl
theorem y_ad_r : ∀ (c : Nat) (r v t : Int32), r + y_ad c v t = y_ad c (r + v) t
  | 0, _, _, _ => rfl
  | c + 1, r, v, t => by rw [y_ad_s, y_ad_s, y_ad_r c, Int32.add_assoc]
def y_ct (D : Nat → Nat → Int32) (pre : List Nat) (s : Nat) : Nat := pre.countP (fun a => decide (D 0 a = D 0 s))
def y_sh1 (D : Nat → Nat → Int32) (pre : List Nat) (s : Nat) (x : Int32 × Int32) : Option (Int32 × Int32) := if D 3 s < z_ov (D 2 s) (D 1 s) x.1 then none else some (z_ov (D 2 s) (D 1 s) x.1, y_ad (y_ct D pre s) (x.2 + D 4 s) (D 5 s))
def y_el (D : Nat → Nat → Int32) : List Nat → List Nat → Int32 × Int32 → Option (Int32 × Int32)
  | [], _, x => some x
  | s :: q, pre, x => (y_sh1 D pre s x).bind (y_el D q (pre ++ [s]))
theorem y_el_s (D : Nat → Nat → Int32) (s : Nat) (q pre : List Nat) (x : Int32 × Int32) : y_el D (s :: q) pre x = (y_sh1 D pre s x).bind (y_el D q (pre ++ [s])) := rfl
theorem y_el_app (D : Nat → Nat → Int32) : ∀ (a b pre : List Nat) (x : Int32 × Int32), y_el D (a ++ b) pre x = (y_el D a pre x).bind (y_el D b (pre ++ a))
  | [], b, pre, x => by rw [List.nil_append, List.append_nil]; rfl
  | s :: a, b, pre, x => by
    rw [List.cons_append, y_el_s, y_el_s]
    cases y_sh1 D pre s x with
    | none => rfl
    | some y =>
      show y_el D (a ++ b) (pre ++ [s]) y = (y_el D a (pre ++ [s]) y).bind (y_el D b (pre ++ s :: a))
      rw [y_el_app D a b, List.append_assoc]
      rfl
def y_kb (st : y_Bs) (e r : Int32) (l : List Nat) : y_Bs := match st with
  | none => some (r, e, l)
  | some b => if b.1 < r then some b else if ¬ r = b.1 then some (r, e, l) else if e < b.2.1 then some (r, e, l) else some b
def y_fo (D : Nat → Nat → Int32) (st : y_Bs) (l : List Nat) : y_Bs := match y_el D l [] (0, 0) with
  | none => st
  | some x => y_kb st x.1 x.2 l
def y_bst (D : Nat → Nat → Int32) (n : Nat) : y_Bs := (y_prm n).foldl (y_fo D) none
theorem y_cmp_s (n k u : Nat) (pre : List Nat) : y_cmp n (k + 1) u pre = y_fm (fun s => if u.testBit s = true then [] else y_cmp n k (u ||| 1 <<< s) (pre ++ [s])) n 0 := rfl
theorem y_fm_s (g : Nat → List (List Nat)) (j d : Nat) : y_fm g (j + 1) d = g d ++ y_fm g j (d + 1) := rfl
theorem y_fm_id {D : Nat → Nat → Int32} {g : Nat → List (List Nat)} (h : ∀ s st, (g s).foldl (y_fo D) st = st) : ∀ (j d : Nat) (st : y_Bs), (y_fm g j d).foldl (y_fo D) st = st
  | 0, _, _ => rfl
  | j + 1, d, st => by rw [y_fm_s, List.foldl_append, h, y_fm_id h j]
/-- what is over too late stays so -/
theorem y_cut {D : Nat → Nat → Int32} {n : Nat} : ∀ (k u : Nat) (pre : List Nat) (st : y_Bs), y_el D pre [] (0, 0) = none → (y_cmp n k u pre).foldl (y_fo D) st = st
  | 0, u, pre, st, h => by
    show y_fo D st pre = st
    unfold y_fo
    rw [h]
  | k + 1, u, pre, st, h => by
    rw [y_cmp_s]
    refine y_fm_id (fun s st => ?_) n 0 st
    by_cases c : u.testBit s = true
    · rw [if_pos c]; rfl
    · rw [if_neg c]
      refine y_cut k _ _ _ ?_
      rw [y_el_app, h]
      rfl
/-- a prefix stands for a set -/
def y_us (n u : Nat) (pre : List Nat) : Prop := u < 128 ∧ ∀ P : Nat → Bool, (List.range n).countP (fun a => u.testBit a && P a) = pre.countP P
theorem y_cnt1 (Q P : Nat → Bool) (s : Nat) (hs : Q s = false) : ∀ n, (List.range n).countP (fun a => (Q a || decide (a = s)) && P a) = (List.range n).countP (fun a => Q a && P a) + (if s < n ∧ P s = true then 1 else 0)
  | 0 => by simp
  | n + 1 => by
    rw [List.range_succ, List.countP_append, List.countP_append, y_cnt1 Q P s hs n, List.countP_singleton, List.countP_singleton]
    by_cases c : n = s
    · subst c
      simp only [hs, decide_true, Bool.false_or, Bool.true_and, Bool.false_and]
      by_cases d : P n = true
      · simp [d]
      · simp [d]
    · have e : (s < n + 1 ∧ P s = true) ↔ (s < n ∧ P s = true) := by
        constructor
        · rintro ⟨h1, h2⟩; exact ⟨by omega, h2⟩
        · rintro ⟨h1, h2⟩; exact ⟨by omega, h2⟩
      simp only [c, decide_false, Bool.or_false, e]
      omega
theorem y_us_s {n u s : Nat} {pre : List Nat} (h : y_us n u pre) (hn : n ≤ 7) (hs : s < n) (hu : u.testBit s = false) : y_us n (u ||| 1 <<< s) (pre ++ [s]) := by
  refine ⟨(z_us2 u h.1 s (by omega)).2, fun P => ?_⟩
  have e : (List.range n).countP (fun a => (u ||| 1 <<< s).testBit a && P a) = (List.range n).countP (fun a => (u.testBit a || decide (a = s)) && P a) := by
    apply List.countP_congr
    intro a ha
    have := List.mem_range.mp ha
    rw [z_us4 u h.1 s (by omega) a (by omega)]
  rw [e, y_cnt1 _ _ _ hu, h.2 P, List.countP_append, List.countP_singleton]
  by_cases c : P s = true
  · rw [if_pos ⟨hs, c⟩, if_pos c]
  · rw [if_neg (fun q => c q.2), if_neg c]
theorem y_us_0 (n : Nat) : y_us n 0 [] := ⟨by decide, fun P => by
  rw [List.countP_nil, List.countP_eq_zero]
  intro a _
  simp⟩
/-! the class -/
def y_rc (S : Nat → Nat → Int32) (n : Nat) (st : y_Bs) : Prop := match st with
  | none => S 28 9 = 0
  | some b => S 28 9 = 1 ∧ S 28 10 = b.1 ∧ S 28 11 = b.2.1 ∧ b.2.2.length = n ∧ ∀ i (hi : i < b.2.2.length), S 36 i = nI b.2.2[i]
def y_df (S S' : Nat → Nat → Int32) : Prop := (∀ b, b ≠ 28 → b ≠ 35 → b ≠ 36 → S' b = S b) ∧ ∀ q, q ≠ 9 → q ≠ 10 → q ≠ 11 → S' 28 q = S 28 q
theorem y_df_id : y_df S S := ⟨fun _ _ _ _ => rfl, fun _ _ _ _ => rfl⟩
theorem y_df_tr {S1 S2 : Nat → Nat → Int32} (h1 : y_df S S1) (h2 : y_df S1 S2) : y_df S S2 := ⟨fun b x y z => (h2.1 b x y z).trans (h1.1 b x y z), fun q x y z => (h2.2 q x y z).trans (h1.2 q x y z)⟩
def y_Dc (D : Nat → Nat → Int32) (n : Nat) (S : Nat → Nat → Int32) : Prop := S 28 6 = nI n ∧ ∀ s, s < n → S 29 s = D 0 s ∧ S 30 s = D 1 s ∧ S 31 s = D 2 s ∧ S 32 s = D 3 s ∧ S 33 s = D 4 s ∧ S 34 s = D 5 s
theorem y_Dc_df {D : Nat → Nat → Int32} {n : Nat} {S' : Nat → Nat → Int32} (h : y_Dc D n S) (e : y_df S S') : y_Dc D n S' := by
  refine ⟨(e.2 6 (by decide) (by decide) (by decide)).trans h.1, ?_⟩
  rw [e.1 29 (by decide) (by decide) (by decide), e.1 30 (by decide) (by decide) (by decide), e.1 31 (by decide) (by decide) (by decide), e.1 32 (by decide) (by decide) (by decide), e.1 33 (by decide) (by decide) (by decide), e.1 34 (by decide) (by decide) (by decide)]
  exact h.2
theorem M22_49 {n : Nat} (hn : n ≤ 7) (h6 : S 28 6 = nI n) : ∀ (j i : Nat), i + j = n → L22_49 (some 28) (nI i) (z_mk L Dh (y_fl S 36 i (S 35)) R nx sl) = some (z_mk L Dh (y_fl S 36 n (S 35)) R nx sl) := by
  intro j
  induction j with
  | zero =>
    intro i hi
    obtain rfl : i = n := by omega
    rw [E22_49]
    simp only [g_28_6, z_bs, y_fl_ne (show (28 : Nat) ≠ 36 by decide), h6]
    rw [if_pos (nI_le (Nat.le_refl _) (by omega))]
  | succ j ih =>
    intro i hi
    have i1 : z_in (nI i) 7 = true := z_in_nI (by omega) (by decide)
    have i2 : (nI i).toNatClampNeg = i := z_cl (by omega)
    rw [E22_49]
    simp only [g_28_6, g_28_7, g_28_8, z_bs, y_fl_ne (show (28 : Nat) ≠ 36 by decide), y_fl_ne (show (35 : Nat) ≠ 36 by decide), h6, l_35 i1, s_36 i1, i2, y_fl_s, nI_1]
    rw [if_neg (nI_ge (by omega) (by omega))]
    exact ih (i + 1) (by omega)
theorem M22 {n : Nat} (hn : n ≤ 7) {e r : Int32} {l : List Nat} {st : y_Bs} (h6 : S 28 6 = nI n) (hl : l.length = n) (h35 : ∀ i (hi : i < l.length), S 35 i = nI l[i]) (hr : y_rc S n st) : ∃ S', z_cV 1 22 [.inr (.inr (some 28)), .inl e, .inl r] (z_mk L Dh S R nx sl) = some (z_mk L Dh S' R nx sl) ∧ y_rc S' n (y_kb st e r l) ∧ S' 35 = S 35 ∧ y_df S S' := by
  have set : ∃ S', ((z_pI 1 (z_mk L Dh S R nx sl) (some 28) 3 9 (1 : Int32)).bind fun h7 => (z_pI 0 h7 (some 28) 3 10 r).bind fun h8 => (z_pI 0 h8 (some 28) 3 11 e).bind fun h9 => L22_49 (some 28) (0 : Int32) h9) = some (z_mk L Dh S' R nx sl) ∧ y_rc S' n (some (r, e, l)) ∧ S' 35 = S 35 ∧ y_df S S' := by
    simp only [p_28_9 1 (Or.inr rfl), p_28_10, p_28_11, z_bs]
    have h := M22_49 (L := L) (Dh := Dh) (S := z_ups (z_ups (z_ups S 28 9 1) 28 10 r) 28 11 e) (R := R) (nx := nx) (sl := sl) hn (by rw [z_upsK (by decide), z_upsK (by decide), z_upsK (by decide)]; exact h6) n 0 (by omega)
    rw [y_fl_0] at h
    refine ⟨_, h, ⟨?_, ?_, ?_, hl, fun i hi => ?_⟩, ?_, fun b x y z => ?_, fun q x y z => ?_⟩
    · rw [y_fl_ne (by decide), z_upsK (by decide), z_upsK (by decide), z_upsS]
    · rw [y_fl_ne (by decide), z_upsK (by decide), z_upsS]
    · rw [y_fl_ne (by decide), z_upsS]
    · rw [y_fl_a, if_pos (by have : i < l.length := hi; omega), z_ups_ne (by decide), z_ups_ne (by decide), z_ups_ne (by decide)]
      exact h35 i hi
    · rw [y_fl_ne (by decide), z_ups_ne (by decide), z_ups_ne (by decide), z_ups_ne (by decide)]
    · rw [y_fl_ne z, z_ups_ne x, z_ups_ne x, z_ups_ne x]
    · rw [y_fl_ne (by decide), z_upsK z, z_upsK y, z_upsK x]
  rw [E22]
  cases st with
  | none =>
    have hr : S 28 9 = 0 := hr
    simp only [g_28_9, z_bs, hr, z_e00, z_iT]
    exact set
  | some b =>
    obtain ⟨r1, r2, r3, r4, r5⟩ := id hr
    simp only [g_28_9, g_28_10, g_28_11, z_bs, r1, r2, r3, z_10, z_iF]
    show ∃ S', _ ∧ y_rc S' n (if b.1 < r then some b else if ¬ r = b.1 then some (r, e, l) else if e < b.2.1 then some (r, e, l) else some b) ∧ _
    by_cases c1 : b.1 < r
    · rw [if_pos c1, if_pos c1]; exact ⟨S, rfl, hr, rfl, y_df_id⟩
    · rw [if_neg c1, if_neg c1]
      by_cases c2 : r = b.1
      · rw [if_neg (show ¬ ¬ r = b.1 from fun q => q c2), if_neg (show ¬ ¬ r = b.1 from fun q => q c2)]
        by_cases c3 : e < b.2.1
        · rw [if_pos c3, if_pos c3]; exact set
        · rw [if_neg c3, if_neg c3]; exact ⟨S, rfl, hr, rfl, y_df_id⟩
      · rw [if_pos c2, if_pos c2]; exact set
theorem M21_10 {D : Nat → Nat → Int32} {n u s : Nat} (hn : n ≤ 7) (hu : u < 128) (hs : s < n) (h : y_Dc D n S) : ∀ (j a : Nat) (v : Int32), a + j = n → L21_10 (some 28) (nI s) (nI u) v (nI a) (z_mk L Dh S R nx sl) = some (y_ad ((List.range' a j).countP (fun a => u.testBit a && decide (D 0 a = D 0 s))) v (D 5 s), z_mk L Dh S R nx sl) := by
  have s1 : z_in (nI s) 7 = true := z_in_nI (by omega) (by decide)
  have s2 : (nI s).toNatClampNeg = s := z_cl (by omega)
  intro j
  induction j with
  | zero =>
    intro a v ha
    rw [E21_10]
    simp only [g_28_6, z_bs, h.1]
    rw [if_pos (nI_le (by omega) (by omega))]
    rfl
  | succ j ih =>
    intro a v ha
    have a1 : z_in (nI a) 7 = true := z_in_nI (by omega) (by decide)
    have a2 : (nI a).toNatClampNeg = a := z_cl (by omega)
    have ih := fun v => ih (a + 1) v (by omega)
    have hask := z_us1 u hu a (by omega)
    rw [E21_10, List.range'_succ, List.countP_cons]
    simp only [g_28_6, g_28_0, g_28_5, z_bs, h.1, l_29 a1, l_29 s1, l_34 s1, a2, s2, (h.2 a (by omega)).1, (h.2 s hs).1, (h.2 s hs).2.2.2.2.2, nI_1]
    rw [if_neg (nI_ge (by omega) (by omega))]
    by_cases c1 : u.testBit a = true
    · rw [if_neg (fun q => by rw [hask.mp q] at c1; cases c1), c1, Bool.true_and]
      by_cases c2 : D 0 a = D 0 s
      · rw [if_neg (fun q => q c2), if_pos (decide_eq_true c2), y_ad_s]
        exact ih _
      · rw [if_pos c2, if_neg (by rw [decide_eq_false c2]; decide)]
        exact ih _
    · have c1' := Bool.eq_false_iff.mpr c1
      rw [if_pos (hask.mpr c1'), c1', Bool.false_and, if_neg (by decide)]
      exact ih _
theorem M21 {D : Nat → Nat → Int32} {n u s : Nat} {pre : List Nat} (hn : n ≤ 7) (hu : y_us n u pre) (hs : s < n) (h : y_Dc D n S) : z_cI 1 21 [.inr (.inr (some 28)), .inl (nI s), .inl (nI u)] (z_mk L Dh S R nx sl) = some (y_ad (y_ct D pre s) (D 4 s) (D 5 s), z_mk L Dh S R nx sl) := by
  have s1 : z_in (nI s) 7 = true := z_in_nI (by omega) (by decide)
  have s2 : (nI s).toNatClampNeg = s := z_cl (by omega)
  have e := M21_10 (L := L) (Dh := Dh) (R := R) (nx := nx) (sl := sl) hn hu.1 hs h n 0 (D 4 s) (by omega)
  rw [← List.range_eq_range', hu.2 (fun a => decide (D 0 a = D 0 s))] at e
  rw [E21]
  simp only [g_28_4, z_bs, l_33 s1, s2, (h.2 s hs).2.2.2.2.1]
  exact e
theorem M19 {D : Nat → Nat → Int32} {n : Nat} (hn : n ≤ 7) : ∀ (k e0 u : Nat) (pre : List Nat) (e r : Int32) (S : Nat → Nat → Int32) (st : y_Bs), pre.length + k = n → y_Dc D n S → y_us n u pre → y_el D pre [] (0, 0) = some (e, r) → (∀ i (hi : i < pre.length), S 35 i = nI pre[i]) → y_rc S n st → ∃ S', z_cV (e0 + k + 12) 19 [.inr (.inr (some 28)), .inl (nI pre.length), .inl (nI u), .inl e, .inl r] (z_mk L Dh S R nx sl) = some (z_mk L Dh S' R nx sl) ∧ y_rc S' n ((y_cmp n k u pre).foldl (y_fo D) st) ∧ (∀ i, i < pre.length → S' 35 i = S 35 i) ∧ y_df S S' := by
  intro k
  induction k with
  | zero =>
    intro e0 u pre e r S st hk hD hu he h35 hr
    obtain ⟨S', e1, e2, e3, e4⟩ := M22 (L := L) (Dh := Dh) (R := R) (nx := nx) (sl := sl) hn (e := e) (r := r) hD.1 (show pre.length = n by omega) h35 hr
    refine ⟨S', ?_, ?_, fun i _ => by rw [e3], e4⟩
    · rw [E19 (e0 + 0)]
      simp only [g_28_6, z_bs, hD.1, o_28, e1]
      rw [if_pos (nI_le (by omega) (by omega))]
    · show y_rc S' n (y_fo D st pre)
      unfold y_fo
      rw [he]
      exact e2
  | succ k ih =>
    intro e0 u pre e r S st hk hD hu he h35 hr
    have p1 : z_in (nI pre.length) 7 = true := z_in_nI (by omega) (by decide)
    have p2 : (nI pre.length).toNatClampNeg = pre.length := z_cl (by omega)
    have loop : ∀ (j s : Nat) (S : Nat → Nat → Int32) (st : y_Bs), s + j = n → y_Dc D n S → (∀ i (hi : i < pre.length), S 35 i = nI pre[i]) → y_rc S n st → ∃ S', L19_25 (e0 + (k + 1)) (some 28) (nI pre.length) (nI u) e r (nI s) (z_mk L Dh S R nx sl) = some (z_mk L Dh S' R nx sl) ∧ y_rc S' n ((y_fm (fun s => if u.testBit s = true then [] else y_cmp n k (u ||| 1 <<< s) (pre ++ [s])) j s).foldl (y_fo D) st) ∧ (∀ i, i < pre.length → S' 35 i = S 35 i) ∧ y_df S S' := by
      intro j
      induction j with
      | zero =>
        intro s S st hs hD h35 hr
        refine ⟨S, ?_, hr, fun _ _ => rfl, y_df_id⟩
        rw [E19_25]
        simp only [g_28_6, z_bs, hD.1]
        rw [if_pos (nI_le (by omega) (by omega))]
      | succ j ihj =>
        intro s S st hs hD h35 hr
        have hsn : s < n := by omega
        have s1 : z_in (nI s) 7 = true := z_in_nI (by omega) (by decide)
        have s2 : (nI s).toNatClampNeg = s := z_cl (by omega)
        obtain ⟨q0, q1, q2, q3, q4, q5⟩ := hD.2 s hsn
        have hask := z_us1 u hu.1 s (by omega)
        have hM20 := M20 (L := L) (Dh := Dh) (S := S) (R := R) (nx := nx) (sl := sl) (show s < 7 by omega) e
        rw [q2, q1] at hM20
        rw [E19_25, y_fm_s, List.foldl_append]
        simp only [g_28_6, z_bs, hD.1, o_28, hM20, nI_1]
        rw [if_neg (nI_ge (by omega) (by omega))]
        by_cases c1 : u.testBit s = true
        · rw [if_pos (fun q => by rw [hask.mp q] at c1; cases c1), if_pos c1]
          exact ihj (s + 1) S st (by omega) hD h35 hr
        · have c1' := Bool.eq_false_iff.mpr c1
          rw [if_neg (fun q => q (hask.mpr c1')), if_neg c1]
          simp only [g_28_3, z_bs, l_32 s1, s2, q3]
          have hel : y_el D (pre ++ [s]) [] (0, 0) = y_sh1 D pre s (e, r) := by
            rw [y_el_app, he]
            show (y_sh1 D ([] ++ pre) s (e, r)).bind (y_el D [] ([] ++ pre ++ [s])) = _
            rw [List.nil_append]
            cases y_sh1 D pre s (e, r) <;> rfl
          by_cases c2 : D 3 s < z_ov (D 2 s) (D 1 s) e
          · rw [if_pos c2, y_cut k _ _ _ (by rw [hel]; unfold y_sh1; rw [if_pos c2])]
            exact ihj (s + 1) S st (by omega) hD h35 hr
          · rw [if_neg c2]
            have d0 : y_df S (z_ups S 35 pre.length (nI s)) := ⟨fun b _ y _ => z_ups_ne y, fun q _ _ _ => by rw [z_ups_ne (by decide)]⟩
            have hD1 := y_Dc_df hD d0
            have hM21 := M21 (L := L) (Dh := Dh) (R := R) (nx := nx) (sl := sl) hn hu hsn hD1
            have hel2 : y_el D (pre ++ [s]) [] (0, 0) = some (z_ov (D 2 s) (D 1 s) e, y_ad (y_ct D pre s) (r + D 4 s) (D 5 s)) := by
              rw [hel]; unfold y_sh1; rw [if_neg c2]
            have lenp : (pre ++ [s]).length = pre.length + 1 := by rw [List.length_append]; rfl
            obtain ⟨S', f1, f2, f3, f4⟩ := ih e0 (u ||| 1 <<< s) (pre ++ [s]) _ _ (z_ups S 35 pre.length (nI s)) st (by rw [lenp]; omega) hD1 (y_us_s hu hn hsn c1') hel2 (fun i hi => by
              rw [z_upsE, if_pos rfl]
              by_cases q : i = pre.length
              · rw [if_pos q]
                have : (pre ++ [s])[i] = s := by
                  rw [List.getElem_append_right (by omega)]
                  simp
                rw [this]
              · have hi2 : i < pre.length := by omega
                rw [if_neg q, List.getElem_append_left hi2]
                exact h35 i hi2) hr
            have d1 := y_df_tr d0 f4
            obtain ⟨S2, g1, g2, g3, g4⟩ := ihj (s + 1) S' _ (by omega) (y_Dc_df hD d1) (fun i hi => by rw [f3 i (by omega), z_upsK (by omega)]; exact h35 i hi) f2
            refine ⟨S2, ?_, g2, fun i hi => by rw [g3 i hi, f3 i (by omega), z_upsK (by omega)], y_df_tr d1 g4⟩
            simp only [g_28_7, z_bs, s_35 p1, p2, o_28, hM21, nI_1]
            rw [(z_us2 u hu.1 s (by omega)).1, y_ad_r]
            rw [lenp] at f1
            show (z_cV (e0 + k + 12) 19 _ _).bind _ = _
            rw [f1]
            simp only [z_bs]
            exact g1
    obtain ⟨S', f1, f2, f3, f4⟩ := loop n 0 S st (by omega) hD h35 hr
    refine ⟨S', ?_, f2, f3, f4⟩
    rw [E19 (e0 + (k + 1))]
    simp only [g_28_6, z_bs, hD.1]
    rw [if_neg (nI_ge (by omega) (by omega)), if_pos (show nI pre.length < (7 : Int32) from nI_lt (b := 7) (by omega) (by decide))]
    exact f1
end ZSX
