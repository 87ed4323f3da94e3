section ZSV
variable {L : Nat} {Dh : Nat → z_Sh} {S : Nat → Nat → Int32} {R : Nat → Nat → Option Nat} {nx sl : Nat}
/-! doubles matched by marks -/
abbrev y_St : Type := Int32 × Int32 × Nat
def y_kp (st : y_St) (n : Nat) (s : Int32) (p : Nat) : y_St := if nI n < st.1 then st else if ¬ nI n = st.1 then (nI n, s, p) else if s < st.2.1 then (nI n, s, p) else st
def y_ul : Nat → Int32 → Int32 → Int32 → Int32
  | 0, v, _, _ => v
  | j + 1, v, a, b => if (a - a / (10 : Int32) * (10 : Int32)) = (b - b / (10 : Int32) * (10 : Int32)) then y_ul j v (a / (10 : Int32)) (b / (10 : Int32)) else y_ul j (v + 1) (a / (10 : Int32)) (b / (10 : Int32))
theorem y_ul_s (j : Nat) (v a b : Int32) : y_ul (j + 1) v a b = if (a - a / (10 : Int32) * (10 : Int32)) = (b - b / (10 : Int32) * (10 : Int32)) then y_ul j v (a / (10 : Int32)) (b / (10 : Int32)) else y_ul j (v + 1) (a / (10 : Int32)) (b / (10 : Int32)) := rfl
theorem M11_23 {h : z_H} : ∀ (j i : Nat) (v a b : Int32), i + j = 5 → L11_23 v a b (nI i) h = some (y_ul j v a b, h) := by
  intro j
  induction j with
  | zero =>
    intro i v a b hi
    obtain rfl : i = 5 := by omega
    rw [E11_23, if_pos (show (5 : Int32) ≤ nI 5 by decide)]
    rfl
  | succ j ih =>
    intro i v a b hi
    rw [E11_23, if_neg (show ¬ (5 : Int32) ≤ nI (i) from nI_ge (a := i) (b := 5) (by omega) (by decide)), nI_1, y_ul_s]
    by_cases c : (a - a / (10 : Int32) * (10 : Int32)) = (b - b / (10 : Int32) * (10 : Int32))
    · rw [if_pos c, if_pos c]; exact ih (i + 1) _ _ _ (by omega)
    · rw [if_neg c, if_neg c]; exact ih (i + 1) _ _ _ (by omega)
theorem M198_11 {h : z_H} : ∀ (j i : Nat) (v a b : Int32), i + j = 5 → L198_11 v a b (nI i) h = some (y_ul j v a b, h) := by
  intro j
  induction j with
  | zero =>
    intro i v a b hi
    obtain rfl : i = 5 := by omega
    rw [E198_11, if_pos (show (5 : Int32) ≤ nI 5 by decide)]
    rfl
  | succ j ih =>
    intro i v a b hi
    rw [E198_11, if_neg (show ¬ (5 : Int32) ≤ nI (i) from nI_ge (a := i) (b := 5) (by omega) (by decide)), nI_1, y_ul_s]
    by_cases c : (a - a / (10 : Int32) * (10 : Int32)) = (b - b / (10 : Int32) * (10 : Int32))
    · rw [if_pos c, if_pos c]; exact ih (i + 1) _ _ _ (by omega)
    · rw [if_neg c, if_neg c]; exact ih (i + 1) _ _ _ (by omega)
theorem M198 {a b : Int32} {h : z_H} : z_cI 1 198 [.inr (.inr (some 52)), .inl a, .inl b] h = some (y_ul 5 0 a b, h) := by
  rw [E198]
  exact M198_11 5 0 0 a b (by omega)
def y_un (mk : Nat → Int32) (t d : Nat) : Int32 := y_ul 5 0 (mk d) (mk (4 + t))
def y_ft (mk : Nat → Int32) (t d : Nat) : Bool := decide (0 ≤ mk d) && decide (0 ≤ mk (4 + t)) && !decide (2 < y_un mk t d)
def y_mkok (mk : Nat → Int32) : Prop := ∀ i, i < 8 → mk i = -1 ∨ 0 ≤ mk i
theorem y_m1n : ¬ (0 : Int32) ≤ -1 := by decide
theorem M11 {mk : Nat → Int32} (hm : y_mkok mk) {t d : Nat} (ht : t < 4) (hd : d < 4) {h : z_H} : ∃ v, z_cI 1 11 [.inl (mk d), .inl (mk (4 + t))] h = some (v, h) ∧ (y_ft mk t d = true → ¬ 2 < v ∧ v = y_un mk t d) ∧ (y_ft mk t d = false → 2 < v) := by
  rw [E11]
  by_cases c1 : mk d = -1
  · rw [if_pos c1]
    have hf : y_ft mk t d = false := by unfold y_ft; rw [c1, decide_eq_false y_m1n, Bool.false_and, Bool.false_and]
    exact ⟨6, rfl, (fun q => by rw [hf] at q; cases q), fun _ => by decide⟩
  · rw [if_neg c1]
    have p1 : 0 ≤ mk d := (hm d (by omega)).resolve_left c1
    by_cases c2 : mk (4 + t) = -1
    · rw [if_neg (fun q => q c2)]
      have hf : y_ft mk t d = false := by unfold y_ft; rw [c2, decide_eq_false y_m1n, Bool.and_false, Bool.false_and]
      exact ⟨6, rfl, (fun q => by rw [hf] at q; cases q), fun _ => by decide⟩
    · have p2 : 0 ≤ mk (4 + t) := (hm (4 + t) (by omega)).resolve_left c2
      rw [if_pos c2]
      refine ⟨y_un mk t d, M11_23 5 0 0 _ _ (by omega), fun q => ⟨fun w => ?_, rfl⟩, fun q => ?_⟩
      · unfold y_ft at q
        rw [decide_eq_true w, Bool.not_true, Bool.and_false] at q
        cases q
      · unfold y_ft at q
        rw [decide_eq_true p1, decide_eq_true p2, Bool.true_and, Bool.true_and] at q
        exact Classical.byContradiction fun w => by
          rw [decide_eq_false w] at q
          cases q
theorem M199 {mk : Nat → Int32} (hm : y_mkok mk) (h77 : ∀ i, i < 8 → S 77 i = mk i) {t d : Nat} (ht : t < 4) (hd : d < 4) : z_cI 2 199 [.inr (.inr (some 52)), .inl (nI t), .inl (nI d)] (z_mk L Dh S R nx sl) = some (if y_ft mk t d = true then 1 else 0, z_mk L Dh S R nx sl) := by
  have d1 : z_in (nI d) 8 = true := z_in_nI (by omega) (by decide)
  have d2 : (nI d).toNatClampNeg = d := z_cl (by omega)
  have t1 : z_in (nI (4 + t)) 8 = true := z_in_nI (by omega) (by decide)
  have t2 : (nI (4 + t)).toNatClampNeg = 4 + t := z_cl (by omega)
  rw [E199, show (4 : Int32) + nI t = nI (4 + t) from nI_add 4 t]
  simp only [g_52_36, o_52, z_bs, l_77 d1, l_77 t1, d2, t2, h77 d (by omega), h77 (4 + t) (by omega), M198]
  unfold y_ft
  by_cases c1 : mk d < 0
  · rw [if_pos c1, decide_eq_false (Int32.not_le.mpr c1), Bool.false_and, Bool.false_and]; rfl
  · rw [if_neg c1, decide_eq_true (Int32.not_lt.mp c1), Bool.true_and]
    by_cases c2 : 0 ≤ mk (4 + t)
    · rw [if_pos c2, decide_eq_true c2, Bool.true_and]
      show (if (2 : Int32) < y_un mk t d then _ else _) = _
      by_cases c3 : (2 : Int32) < y_un mk t d
      · rw [if_pos c3, decide_eq_true c3]; rfl
      · rw [if_neg c3, decide_eq_false c3]; rfl
    · rw [if_neg c2, decide_eq_false c2, Bool.false_and]; rfl
def y_ok (mk : Nat → Int32) (t : Nat) (u : Int32) (d : Nat) : Bool := !z_bt u d && y_ft mk t d
def y_pt (u : Int32) (d : Nat) : Int32 := u ||| ((1 : Int32) <<< (nI d &&& 31))
def y_Gd (g : Int32 → Nat → Int32 → Nat → y_St → y_St) (mk : Nat → Int32) (t : Nat) (u : Int32) (n : Nat) (s : Int32) (p : Nat) : Nat → Nat → y_St → y_St
  | 0, _, st => st
  | j + 1, d, st => y_Gd g mk t u n s p j (d + 1) (if y_ok mk t u d = true then g (y_pt u d) (n + 1) (s + y_un mk t d) (5 * p + d) st else st)
theorem y_Gd_s (g : Int32 → Nat → Int32 → Nat → y_St → y_St) (mk : Nat → Int32) (t : Nat) (u : Int32) (n : Nat) (s : Int32) (p j d : Nat) (st : y_St) : y_Gd g mk t u n s p (j + 1) d st = y_Gd g mk t u n s p j (d + 1) (if y_ok mk t u d = true then g (y_pt u d) (n + 1) (s + y_un mk t d) (5 * p + d) st else st) := rfl
def y_G (mk : Nat → Int32) : Nat → Nat → Int32 → Nat → Int32 → Nat → y_St → y_St
  | 0, _, _, n, s, p, st => y_kp st n s p
  | k + 1, t, u, n, s, p, st => y_G mk k (t + 1) u n s (5 * p + 4) (y_Gd (y_G mk k (t + 1)) mk t u n s p 4 0 st)
theorem y_G_s (mk : Nat → Int32) (k t : Nat) (u : Int32) (n : Nat) (s : Int32) (p : Nat) (st : y_St) : y_G mk (k + 1) t u n s p st = y_G mk k (t + 1) u n s (5 * p + 4) (y_Gd (y_G mk k (t + 1)) mk t u n s p 4 0 st) := rfl
/-- something was kept -/
theorem y_G_set (mk : Nat → Int32) : ∀ (k t : Nat) (u : Int32) (n : Nat) (s : Int32) (p : Nat) (st : y_St), n < 1000 → (y_G mk k t u n s p st).1 ≠ -1
  | 0, t, u, n, s, p, st, hn => by
    show (y_kp st n s p).1 ≠ -1
    have e : nI n ≠ -1 := fun q => by
      have := z_eq.mp q
      rw [z_nI (by omega)] at this
      have e1 : (-1 : Int32).toInt = -1 := rfl
      omega
    unfold y_kp
    by_cases c1 : nI n < st.1
    · rw [if_pos c1]
      intro q
      rw [q] at c1
      have := z_lt.mp c1
      rw [z_nI (by omega)] at this
      have e1 : (-1 : Int32).toInt = -1 := rfl
      omega
    · rw [if_neg c1]
      by_cases c2 : nI n = st.1
      · rw [if_neg (fun q => q c2)]
        by_cases c3 : s < st.2.1
        · rw [if_pos c3]; exact e
        · rw [if_neg c3, ← c2]; exact e
      · rw [if_pos c2]; exact e
  | k + 1, t, u, n, s, p, st, hn => by
    rw [y_G_s]
    exact y_G_set mk k _ _ _ _ _ _ hn
def y_pk (c : Nat) : Int32 := if c = 4 then -9 else nI c
def y_pre (f : Nat → Int32) : Nat → Nat → Prop
  | 0, _ => True
  | m + 1, p => f m = y_pk (p % 5) ∧ y_pre f m (p / 5)
theorem y_pre_congr {f g : Nat → Int32} : ∀ (m p : Nat), (∀ i, i < m → g i = f i) → y_pre f m p → y_pre g m p
  | 0, _, _, _ => trivial
  | m + 1, p, h, q => ⟨(h m (by omega)).trans q.1, y_pre_congr m _ (fun i hi => h i (by omega)) q.2⟩
theorem y_pre_s {f : Nat → Int32} {m p c : Nat} {g : Nat → Int32} (hc : c < 5) (h : y_pre f m p) (e : ∀ i, i < m → g i = f i) (hm : g m = y_pk c) : y_pre g (m + 1) (5 * p + c) := by
  refine ⟨by rw [hm, show (5 * p + c) % 5 = c by omega], ?_⟩
  rw [show (5 * p + c) / 5 = p by omega]
  exact y_pre_congr m p e h
def y_mrel (S : Nat → Nat → Int32) (st : y_St) : Prop := S 38 3 = st.1 ∧ S 38 4 = st.2.1 ∧ (st.1 ≠ -1 → y_pre (S 41) 4 st.2.2)
def y_cf (S S' : Nat → Nat → Int32) : Prop := (∀ b, b ≠ 38 → b ≠ 40 → b ≠ 41 → S' b = S b) ∧ ∀ q, q ≠ 3 → q ≠ 4 → S' 38 q = S 38 q
theorem y_cf_id : y_cf S S := ⟨fun _ _ _ _ => rfl, fun _ _ _ => rfl⟩
theorem y_cf_tr {S1 S2 : Nat → Nat → Int32} (h1 : y_cf S S1) (h2 : y_cf S1 S2) : y_cf S S2 := ⟨fun b x y z => (h2.1 b x y z).trans (h1.1 b x y z), fun q x y => (h2.2 q x y).trans (h1.2 q x y)⟩
theorem M10_37 : ∀ (j i : Nat), i + j = 4 → L10_37 (some 38) (nI i) (z_mk L Dh (y_fl S 41 i (S 40)) R nx sl) = some (z_mk L Dh (y_fl S 41 4 (S 40)) R nx sl) := by
  intro j
  induction j with
  | zero =>
    intro i hi
    obtain rfl : i = 4 := by omega
    rw [E10_37, if_pos (show (4 : Int32) ≤ nI 4 by decide)]
  | succ j ih =>
    intro i hi
    have i1 : z_in (nI i) 4 = true := z_in_nI (by omega) (by decide)
    have i2 : (nI i).toNatClampNeg = i := z_cl (by omega)
    rw [E10_37, if_neg (show ¬ (4 : Int32) ≤ nI (i) from nI_ge (a := i) (b := 4) (by omega) (by decide))]
    simp only [g_38_1, g_38_2, z_bs, l_40 i1, s_41 i1, i2, y_fl_ne (show (40 : Nat) ≠ 41 by decide), y_fl_s, nI_1]
    exact ih (i + 1) (by omega)
theorem M10 {n p : Nat} {s : Int32} {st : y_St} (hp : y_pre (S 40) 4 p) (hr : y_mrel S st) : ∃ S', z_cV 1 10 [.inr (.inr (some 38)), .inl (nI n), .inl s] (z_mk L Dh S R nx sl) = some (z_mk L Dh S' R nx sl) ∧ y_mrel S' (y_kp st n s p) ∧ S' 40 = S 40 ∧ y_cf S S' := by
  obtain ⟨r1, r2, r3⟩ := hr
  have set : ∃ S', ((z_pI 0 (z_mk L Dh S R nx sl) (some 38) 1 3 (nI n)).bind fun h3 => (z_pI 0 h3 (some 38) 1 4 s).bind fun h4 => L10_37 (some 38) (0 : Int32) h4) = some (z_mk L Dh S' R nx sl) ∧ y_mrel S' (nI n, s, p) ∧ S' 40 = S 40 ∧ y_cf S S' := by
    simp only [p_38_3, p_38_4, z_bs]
    have h := M10_37 (L := L) (Dh := Dh) (S := z_ups (z_ups S 38 3 (nI n)) 38 4 s) (R := R) (nx := nx) (sl := sl) 4 0 (by omega)
    rw [y_fl_0] at h
    refine ⟨_, h, ⟨?_, ?_, fun _ => ?_⟩, ?_, fun b x y z => ?_, fun q x y => ?_⟩
    · rw [y_fl_ne (by decide), z_upsK (by decide), z_upsS]
    · rw [y_fl_ne (by decide), z_upsS]
    · refine y_pre_congr 4 p (fun i hi => ?_) hp
      rw [y_fl_a, if_pos hi, z_ups_ne (by decide), z_ups_ne (by decide)]
    · rw [y_fl_ne (by decide), z_ups_ne (by decide), z_ups_ne (by decide)]
    · rw [y_fl_ne z, z_ups_ne x, z_ups_ne x]
    · rw [y_fl_ne (by decide), z_upsK y, z_upsK x]
  rw [E10]
  simp only [g_38_3, g_38_4, z_bs, r1, r2]
  unfold y_kp
  by_cases c1 : nI n < st.1
  · rw [if_pos c1, if_pos c1]; exact ⟨S, rfl, ⟨r1, r2, r3⟩, rfl, y_cf_id⟩
  · rw [if_neg c1, if_neg c1]
    by_cases c2 : nI n = st.1
    · rw [if_neg (show ¬ ¬ nI n = st.1 from fun q => q c2), if_neg (show ¬ ¬ nI n = st.1 from fun q => q c2)]
      by_cases c3 : s < st.2.1
      · rw [if_pos c3, if_pos c3]; exact set
      · rw [if_neg c3, if_neg c3]; exact ⟨S, rfl, ⟨r1, r2, r3⟩, rfl, y_cf_id⟩
    · rw [if_pos c2, if_pos c2]; exact set
theorem M9 {mk : Nat → Int32} (hm : y_mkok mk) : ∀ (k e t : Nat) (u : Int32) (n : Nat) (s : Int32) (p : Nat) (S : Nat → Nat → Int32) (st : y_St), t + k = 4 → (∀ i, i < 8 → S 39 i = mk i) → y_pre (S 40) t p → y_mrel S st → ∃ S', z_cV (e + k + 12) 9 [.inr (.inr (some 38)), .inl (nI t), .inl u, .inl (nI n), .inl s] (z_mk L Dh S R nx sl) = some (z_mk L Dh S' R nx sl) ∧ y_mrel S' (y_G mk k t u n s p st) ∧ (∀ i, i < t → S' 40 i = S 40 i) ∧ y_cf S S' := by
  intro k
  induction k with
  | zero =>
    intro e t u n s p S st ht h39 hp hr
    obtain rfl : t = 4 := by omega
    obtain ⟨S', e1, e2, e3, e4⟩ := M10 (L := L) (Dh := Dh) (R := R) (nx := nx) (sl := sl) (n := n) (s := s) hp hr
    refine ⟨S', ?_, e2, fun i _ => by rw [e3], e4⟩
    rw [E9 (e + 0), if_neg (show ¬ nI 4 < (4 : Int32) by decide)]
    simp only [o_38, z_bs, e1]
  | succ k ih =>
    intro e t u n s p S st ht h39 hp hr
    have t1 : z_in (nI t) 4 = true := z_in_nI (by omega) (by decide)
    have t2 : (nI t).toNatClampNeg = t := z_cl (by omega)
    have t3 : z_in (nI (4 + t)) 8 = true := z_in_nI (by omega) (by decide)
    have t4 : (nI (4 + t)).toNatClampNeg = 4 + t := z_cl (by omega)
    have loop : ∀ (j d : Nat) (S : Nat → Nat → Int32) (st : y_St), d + j = 4 → (∀ i, i < 8 → S 39 i = mk i) → y_pre (S 40) t p → y_mrel S st → ∃ S', L9_16 (e + (k + 1)) (some 38) (nI t) u (nI n) s (nI d) (z_mk L Dh S R nx sl) = some (z_mk L Dh S' R nx sl) ∧ y_mrel S' (y_G mk k (t + 1) u n s (5 * p + 4) (y_Gd (y_G mk k (t + 1)) mk t u n s p j d st)) ∧ (∀ i, i < t → S' 40 i = S 40 i) ∧ y_cf S S' := by
      intro j
      induction j with
      | zero =>
        intro d S st hd h39 hp hr
        obtain rfl : d = 4 := by omega
        have c0 : y_cf S (z_ups S 40 t (-9)) := ⟨fun b _ y _ => z_ups_ne y, fun q _ _ => by rw [z_ups_ne (by decide)]⟩
        obtain ⟨S', f1, f2, f3, f4⟩ := ih e (t + 1) u n s (5 * p + 4) (z_ups S 40 t (-9)) st (by omega) (fun i hi => by rw [z_ups_ne (by decide)]; exact h39 i hi) (y_pre_s (by decide) hp (fun i hi => z_upsK (by omega)) (by rw [z_upsS]; rfl)) hr
        refine ⟨S', ?_, f2, fun i hi => by rw [f3 i (by omega), z_upsK (by omega)], y_cf_tr c0 f4⟩
        rw [E9_16, if_pos (show (4 : Int32) ≤ nI 4 by decide)]
        simp only [g_38_1, z_bs, s_40 t1, t2, o_38, nI_1]
        show (z_cV (e + k + 12) 9 _ _).bind _ = _
        rw [f1]
        rfl
      | succ j ihj =>
        intro d S st hd h39 hp hr
        have d1 : z_in (nI d) 8 = true := z_in_nI (by omega) (by decide)
        have d2 : (nI d).toNatClampNeg = d := z_cl (by omega)
        obtain ⟨v, v1, v2, v3⟩ := M11 hm (show t < 4 by omega) (show d < 4 by omega) (h := z_mk L Dh S R nx sl)
        rw [E9_16, if_neg (show ¬ (4 : Int32) ≤ nI (d) from nI_ge (a := d) (b := 4) (by omega) (by decide)), show (4 : Int32) + nI t = nI (4 + t) from nI_add 4 t]
        simp only [g_38_0, g_38_1, z_bs, l_39 d1, l_39 t3, d2, t4, h39 d (by omega), h39 (4 + t) (by omega), v1, nI_1, o_38]
        rw [y_Gd_s]
        have hask := z_bt_ask (x := u) (k := d) (by omega)
        by_cases c1 : z_bt u d = true
        · have hok : y_ok mk t u d = false := by unfold y_ok; rw [c1, Bool.not_true, Bool.false_and]
          rw [if_pos (fun q => by rw [hask.mp q] at c1; cases c1), hok, if_neg (by decide)]
          exact ihj (d + 1) S st (by omega) h39 hp hr
        · have c1' := Bool.eq_false_iff.mpr c1
          rw [if_neg (fun q => q (hask.mpr c1'))]
          by_cases c2 : y_ft mk t d = true
          · have hok : y_ok mk t u d = true := by unfold y_ok; rw [c1', c2]; rfl
            rw [if_neg (v2 c2).1, if_pos hok, s_40 t1, t2, (v2 c2).2]
            simp only [z_bs, o_38]
            have c0 : y_cf S (z_ups S 40 t (nI d)) := ⟨fun b _ y _ => z_ups_ne y, fun q _ _ => by rw [z_ups_ne (by decide)]⟩
            obtain ⟨S', f1, f2, f3, f4⟩ := ih e (t + 1) (y_pt u d) (n + 1) (s + y_un mk t d) (5 * p + d) (z_ups S 40 t (nI d)) st (by omega) (fun i hi => by rw [z_ups_ne (by decide)]; exact h39 i hi) (y_pre_s (by omega) hp (fun i hi => z_upsK (by omega)) (by rw [z_upsS]; unfold y_pk; rw [if_neg (by omega)])) hr
            have c3 := y_cf_tr c0 f4
            obtain ⟨S2, g1, g2, g3, g4⟩ := ihj (d + 1) S' _ (by omega) (fun i hi => by rw [c3.1 39 (by decide) (by decide) (by decide)]; exact h39 i hi) (y_pre_congr t p (fun i hi => by rw [f3 i (by omega), z_upsK (by omega)]) hp) f2
            refine ⟨S2, ?_, g2, fun i hi => by rw [g3 i hi, f3 i (by omega), z_upsK (by omega)], y_cf_tr c3 g4⟩
            show (z_cV (e + k + 12) 9 [.inr (.inr (some 38)), .inl (nI (t + 1)), .inl (y_pt u d), .inl (nI (n + 1)), .inl (s + y_un mk t d)] _).bind _ = _
            rw [f1]
            simp only [z_bs]
            exact g1
          · have c2' := Bool.eq_false_iff.mpr c2
            have hok : y_ok mk t u d = false := by unfold y_ok; rw [c2', Bool.and_false]
            rw [if_pos (v3 c2'), hok, if_neg (by decide)]
            exact ihj (d + 1) S st (by omega) h39 hp hr
    obtain ⟨S', f1, f2, f3, f4⟩ := loop 4 0 S st (by omega) h39 hp hr
    refine ⟨S', ?_, f2, f3, f4⟩
    rw [E9 (e + (k + 1)), if_pos (show nI t < (4 : Int32) from nI_lt (b := 4) (by omega) (by decide))]
    exact f1
/-! the model's ways -/
def y_e1 (mk : Nat → Int32) (m c : Nat) (x : Int32 × Nat × Int32) : Option (Int32 × Nat × Int32) := if c = 4 then some x else if y_ok mk m x.1 c = true then some (y_pt x.1 c, x.2.1 + 1, x.2.2 + y_un mk m c) else none
def y_ev (mk : Nat → Int32) : Nat → Nat → Option (Int32 × Nat × Int32)
  | 0, _ => some (0, 0, 0)
  | m + 1, p => (y_ev mk m (p / 5)).bind (y_e1 mk m (p % 5))
theorem y_ev_s (mk : Nat → Int32) (m p : Nat) : y_ev mk (m + 1) p = (y_ev mk m (p / 5)).bind (y_e1 mk m (p % 5)) := rfl
def y_wv (mk : Nat → Int32) (w : Nat) (st : y_St) : y_St := match y_ev mk 4 w with
  | none => st
  | some x => y_kp st x.2.1 x.2.2 w
def y_wl (mk : Nat → Int32) : Nat → Nat → y_St → y_St
  | 0, _, st => st
  | j + 1, w, st => y_wl mk j (w + 1) (y_wv mk w st)
theorem y_wl_s (mk : Nat → Int32) (j w : Nat) (st : y_St) : y_wl mk (j + 1) w st = y_wl mk j (w + 1) (y_wv mk w st) := rfl
theorem y_wl_add (mk : Nat → Int32) : ∀ (a b w : Nat) (st : y_St), y_wl mk (a + b) w st = y_wl mk b (w + a) (y_wl mk a w st)
  | 0, b, w, st => by rw [Nat.zero_add, Nat.add_zero]; rfl
  | a + 1, b, w, st => by rw [show a + 1 + b = (a + b) + 1 by omega, y_wl_s, y_wl_s, y_wl_add mk a b, show w + 1 + a = w + (a + 1) by omega]
def y_bl (mk : Nat → Int32) (k m p : Nat) (x : Option (Int32 × Nat × Int32)) (st : y_St) : y_St := match x with
  | none => st
  | some x => y_G mk k m x.1 x.2.1 x.2.2 p st
theorem y_bl_e (mk : Nat → Int32) (k m p c : Nat) (hc : c < 4) (u : Int32) (n : Nat) (s : Int32) (st : y_St) : y_bl mk k (m + 1) (5 * p + c) (y_e1 mk m c (u, n, s)) st = if y_ok mk m u c = true then y_G mk k (m + 1) (y_pt u c) (n + 1) (s + y_un mk m c) (5 * p + c) st else st := by
  unfold y_e1
  rw [if_neg (by omega)]
  by_cases q : y_ok mk m u c = true
  · rw [if_pos q, if_pos q]; rfl
  · rw [if_neg q, if_neg q]; rfl
theorem y_wl_bl (mk : Nat → Int32) : ∀ (k m p : Nat) (st : y_St), m + k = 4 → y_wl mk (5 ^ k) (5 ^ k * p) st = y_bl mk k m p (y_ev mk m p) st := by
  intro k
  induction k with
  | zero =>
    intro m p st hm
    obtain rfl : m = 4 := by omega
    rw [Nat.pow_zero, Nat.one_mul]
    show y_wv mk p st = _
    unfold y_wv y_bl
    cases y_ev mk 4 p <;> rfl
  | succ k ih =>
    intro m p st hm
    generalize hX : 5 ^ k = X at *
    have e0 : 5 ^ (k + 1) = X + (X + (X + (X + X))) := by rw [Nat.pow_succ, hX]; omega
    have em : ∀ c, X * (5 * p + c) = (X + (X + (X + (X + X)))) * p + X * c := fun c => by
      rw [Nat.mul_add, ← Nat.mul_assoc, Nat.mul_comm X 5, show X + (X + (X + (X + X))) = 5 * X by omega]
    have a0 := ih (m + 1) (5 * p + 0) st (by omega)
    rw [em, Nat.mul_zero, Nat.add_zero] at a0
    have a1 := fun st => ih (m + 1) (5 * p + 1) st (by omega)
    have a2 := fun st => ih (m + 1) (5 * p + 2) st (by omega)
    have a3 := fun st => ih (m + 1) (5 * p + 3) st (by omega)
    have a4 := fun st => ih (m + 1) (5 * p + 4) st (by omega)
    simp only [em] at a1 a2 a3 a4
    rw [e0, y_wl_add, a0, y_wl_add, show (X + (X + (X + (X + X)))) * p + X = (X + (X + (X + (X + X)))) * p + X * 1 by omega, a1, y_wl_add, show (X + (X + (X + (X + X)))) * p + X * 1 + X = (X + (X + (X + (X + X)))) * p + X * 2 by omega, a2, y_wl_add, show (X + (X + (X + (X + X)))) * p + X * 2 + X = (X + (X + (X + (X + X)))) * p + X * 3 by omega, a3, show (X + (X + (X + (X + X)))) * p + X * 3 + X = (X + (X + (X + (X + X)))) * p + X * 4 by omega, a4]
    rw [y_ev_s, y_ev_s, y_ev_s, y_ev_s, y_ev_s, show (5 * p + 0) / 5 = p by omega, show (5 * p + 1) / 5 = p by omega, show (5 * p + 2) / 5 = p by omega, show (5 * p + 3) / 5 = p by omega, show (5 * p + 4) / 5 = p by omega, show (5 * p + 0) % 5 = 0 by omega, show (5 * p + 1) % 5 = 1 by omega, show (5 * p + 2) % 5 = 2 by omega, show (5 * p + 3) % 5 = 3 by omega, show (5 * p + 4) % 5 = 4 by omega]
    cases hx : y_ev mk m p with
    | none => rfl
    | some x =>
      obtain ⟨u, n, s⟩ := x
      show y_bl mk k (m + 1) (5 * p + 4) (y_e1 mk m 4 (u, n, s)) (y_bl mk k (m + 1) (5 * p + 3) (y_e1 mk m 3 (u, n, s)) (y_bl mk k (m + 1) (5 * p + 2) (y_e1 mk m 2 (u, n, s)) (y_bl mk k (m + 1) (5 * p + 1) (y_e1 mk m 1 (u, n, s)) (y_bl mk k (m + 1) (5 * p + 0) (y_e1 mk m 0 (u, n, s)) st)))) = y_G mk (k + 1) m u n s p st
      rw [y_bl_e mk k m p 0 (by decide), y_bl_e mk k m p 1 (by decide), y_bl_e mk k m p 2 (by decide), y_bl_e mk k m p 3 (by decide)]
      rfl
theorem y_wl_G (mk : Nat → Int32) (st : y_St) : y_wl mk 625 0 st = y_G mk 4 0 0 0 0 0 st := by
  have := y_wl_bl mk 4 0 0 st (by omega)
  rw [Nat.mul_zero] at this
  exact this
end ZSV
