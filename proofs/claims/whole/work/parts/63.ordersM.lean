section ZSY
variable {L : Nat} {Dh : Nat → z_Sh} {S : Nat → Nat → Int32} {R : Nat → Nat → Option Nat} {nx sl : Nat}
/-! the model's orders -/
def y_or (S : Nat → Nat → Int32) (n : Nat) (l : List Nat) : Prop := l.length = n ∧ (∀ i (hi : i < l.length), S 74 i = nI l[i]) ∧ ∀ i (hi : i < l.length), l[i] < n
def y_Dm (D : Nat → Nat → Int32) (n : Nat) (S : Nat → Nat → Int32) : Prop := S 52 28 = nI n ∧ ∀ s, s < n → S 73 (s * 6 + 0) = D 0 s ∧ S 73 (s * 6 + 1) = D 1 s ∧ S 73 (s * 6 + 2) = D 2 s ∧ S 73 (s * 6 + 3) = D 3 s ∧ S 73 (s * 6 + 4) = D 4 s ∧ S 73 (s * 6 + 5) = D 5 s
def y_Db (D : Nat → Nat → Int32) (n : Nat) : Prop := ∀ s, s < n → 1 ≤ (D 1 s).toInt ∧ (D 1 s).toInt ≤ 300 ∧ 0 ≤ (D 2 s).toInt ∧ (D 2 s).toInt ≤ 999 ∧ (D 3 s).toInt ≤ 999 ∧ 0 ≤ (D 4 s).toInt ∧ (D 4 s).toInt ≤ 999 ∧ 0 ≤ (D 5 s).toInt ∧ (D 5 s).toInt ≤ 99
theorem y_ad_b {t : Int32} (h1 : 0 ≤ t.toInt) (h2 : t.toInt ≤ 99) : ∀ (c : Nat) (v : Int32), 0 ≤ v.toInt → v.toInt + 99 * (c : Int) ≤ 2000000 → 0 ≤ (y_ad c v t).toInt ∧ (y_ad c v t).toInt ≤ v.toInt + 99 * (c : Int)
  | 0, v, h, _ => ⟨h, by show v.toInt ≤ v.toInt + 99 * ((0 : Nat) : Int); omega⟩
  | c + 1, v, h3, h4 => by
    have e : (v + t).toInt = v.toInt + t.toInt := z_add (by omega) (by omega)
    rw [y_ad_s]
    have := y_ad_b h1 h2 c (v + t) (by omega) (by omega)
    omega
theorem y_el_b {D : Nat → Nat → Int32} {n : Nat} (hD : y_Db D n) : ∀ (q pre : List Nat) (x y : Int32 × Int32), pre.length + q.length ≤ 7 → (∀ i (hi : i < q.length), q[i] < n) → 0 ≤ x.1.toInt → x.1.toInt ≤ 999 → 0 ≤ x.2.toInt → x.2.toInt ≤ 2000 * (pre.length : Int) → y_el D q pre x = some y → 0 ≤ y.1.toInt ∧ y.1.toInt ≤ 999 ∧ 0 ≤ y.2.toInt
  | [], pre, x, y, _, _, h1, h2, h3, _, h => by
    have : x = y := Option.some.inj h
    rw [← this]
    exact ⟨h1, h2, h3⟩
  | s :: q, pre, x, y, hl, hq, h1, h2, h3, h4, h => by
    have hs := hq 0 (by simp)
    have hs : s < n := hs
    obtain ⟨b1, b2, b3, b4, b5, b6, b7, b8, b9⟩ := hD s hs
    rw [y_el_s] at h
    unfold y_sh1 at h
    have ov := z_ov_b b1 b2 b3 b4 h1 h2
    have hct : y_ct D pre s ≤ pre.length := List.countP_le_length
    have hll : (s :: q).length = q.length + 1 := rfl
    by_cases c : D 3 s < z_ov (D 2 s) (D 1 s) x.1
    · rw [if_pos c] at h; cases h
    · rw [if_neg c] at h
      have c' := z_le.mp (Int32.not_lt.mp c)
      have e : (x.2 + D 4 s).toInt = x.2.toInt + (D 4 s).toInt := z_add (by omega) (by omega)
      have ad := y_ad_b b8 b9 (y_ct D pre s) (x.2 + D 4 s) (by omega) (by omega)
      refine y_el_b hD q (pre ++ [s]) (z_ov (D 2 s) (D 1 s) x.1, y_ad (y_ct D pre s) (x.2 + D 4 s) (D 5 s)) y ?_ (fun i hi => ?_) ov.1 (show (z_ov (D 2 s) (D 1 s) x.1).toInt ≤ 999 by omega) ad.1 ?_ h
      · rw [List.length_append]; show pre.length + 1 + q.length ≤ 7; omega
      · exact hq (i + 1) (by rw [hll]; omega)
      · rw [List.length_append]
        show (y_ad (y_ct D pre s) (x.2 + D 4 s) (D 5 s)).toInt ≤ 2000 * ((pre.length + 1 : Nat) : Int)
        omega
theorem M191_52 {D : Nat → Nat → Int32} {n s : Nat} {l pre q : List Nat} {v1 : Int32} (hn : n ≤ 7) (hm : y_Dm D n S) (ho : y_or S n l) (hl : l = pre ++ q) (hs : s < n) : ∀ (r : List Nat) (b : Nat) (v : Int32), pre.drop b = r → b ≤ pre.length → L191_52 (some 52) v1 v (nI pre.length) (nI s) (nI b) (z_mk L Dh S R nx sl) = L191_6 (some 52) v1 (y_ad (r.countP (fun a => decide (D 0 a = D 0 s))) v (D 5 s)) (nI (pre.length + 1)) (z_mk L Dh S R nx sl) := by
  have hpl : pre.length ≤ n := by have := ho.1; rw [hl, List.length_append] at this; omega
  intro r
  induction r with
  | nil =>
    intro b v hr hb
    have hk : pre.length ≤ b := List.drop_eq_nil_iff.mp hr
    rw [E191_52, if_pos (nI_le hk (by omega)), nI_1]
    rfl
  | cons a r ih =>
    intro b v hr hb
    obtain ⟨hk, hg, hd⟩ := y_drop_cons hr
    have ih := fun v => ih (b + 1) v hd (by omega)
    have hbl : b < l.length := by rw [ho.1]; omega
    have hlb : l[b] = a := by
      have : l[b] = (pre ++ q)[b]'(by rw [← hl]; exact hbl) := by simp only [hl]
      rw [this, List.getElem_append_left hk, hg]
    have h74 : S 74 b = nI a := by rw [ho.2.1 b hbl, hlb]
    have han : a < n := by rw [← hlb]; exact ho.2.2 b hbl
    rw [E191_52, if_neg (nI_ge hk (by omega)), List.countP_cons]
    simp only [g_52_29, g_52_30, z_bs, l_74 (z_in_nI (show b < 7 by omega) (by decide)), z_cl (show b < 2147483648 by omega), h74, z_ld73_0 (show a < 7 by omega), z_ld73_0 (show s < 7 by omega), z_ld73_5 (show s < 7 by omega), (hm.2 a han).1, (hm.2 s hs).1, (hm.2 s hs).2.2.2.2.2, nI_1]
    by_cases c : D 0 a = D 0 s
    · rw [if_neg (fun q => q c), if_pos (decide_eq_true c), y_ad_s]
      exact ih _
    · rw [if_pos c, if_neg (by rw [decide_eq_false c]; decide)]
      exact ih _
theorem M191_6 {D : Nat → Nat → Int32} {n : Nat} {l : List Nat} (hn : n ≤ 7) (hm : y_Dm D n S) (hD : y_Db D n) (ho : y_or S n l) : ∀ (q pre : List Nat) (e r : Int32), l = pre ++ q → 0 ≤ e.toInt → e.toInt ≤ 999 → L191_6 (some 52) e r (nI pre.length) (z_mk L Dh S R nx sl) = match y_el D q pre (e, r) with
    | none => some (z_mk L Dh S R nx sl)
    | some x => L191_113 (some 52) x.1 x.2 (z_mk L Dh S R nx sl) := by
  have e0 : (0 : Int32).toInt = 0 := rfl
  intro q
  induction q with
  | nil =>
    intro pre e r hl he1 he2
    have : pre.length = n := by have := ho.1; rw [hl, List.append_nil] at this; exact this
    rw [E191_6]
    simp only [g_52_28, z_bs, hm.1]
    rw [if_pos (nI_le (by omega) (by omega))]
    rfl
  | cons s q ih =>
    intro pre e r hl he1 he2
    have hlen : pre.length < n := by have := ho.1; rw [hl, List.length_append, List.length_cons] at this; omega
    have hpl : pre.length < l.length := by rw [ho.1]; exact hlen
    have hls : l[pre.length] = s := by
      have : l[pre.length] = (pre ++ s :: q)[pre.length]'(by rw [← hl]; exact hpl) := by simp only [hl]
      rw [this, List.getElem_append_right (by omega)]
      simp
    have hsn : s < n := by rw [← hls]; exact ho.2.2 _ hpl
    have h74 : S 74 pre.length = nI s := by rw [ho.2.1 _ hpl, hls]
    obtain ⟨q0, q1, q2, q3, q4, q5⟩ := hm.2 s hsn
    obtain ⟨b1, b2, b3, b4, b5, b6, b7, b8, b9⟩ := hD s hsn
    have ov := z_ov_b b1 b2 b3 b4 he1 he2
    have hM := M190 (L := L) (Dh := Dh) (S := S) (R := R) (nx := nx) (sl := sl) (show s < 7 by omega) e
    rw [q2, q1, q3] at hM
    have e52 := fun v1 v => M191_52 (L := L) (Dh := Dh) (R := R) (nx := nx) (sl := sl) (v1 := v1) hn hm ho hl hsn pre 0 v rfl (by omega)
    rw [E191_6, y_el_s]
    simp only [g_52_28, z_bs, hm.1]
    rw [if_neg (nI_ge hlen (by omega)), if_neg (Int32.not_lt.mpr (z_le.mpr (show (0 : Int32).toInt ≤ _ by omega)))]
    simp only [g_52_30, g_52_29, o_52, z_bs, l_74 (z_in_nI (show pre.length < 7 by omega) (by decide)), z_cl (show pre.length < 2147483648 by omega), h74, hM, z_ld73_4 (show s < 7 by omega), q4]
    have e52' : ∀ v1 v, L191_52 (some 52) v1 v (nI pre.length) (nI s) 0 (z_mk L Dh S R nx sl) = L191_6 (some 52) v1 (y_ad (y_ct D pre s) v (D 5 s)) (nI (pre.length + 1)) (z_mk L Dh S R nx sl) := e52
    rw [e52']
    unfold y_sh1
    by_cases c : D 3 s < z_ov (D 2 s) (D 1 s) e
    · rw [if_neg (Int32.not_le.mpr c), if_pos c]
      show _ = some (z_mk L Dh S R nx sl)
      rw [E191_6]
      simp only [g_52_28, z_bs, hm.1]
      have h113 : ∀ v, L191_113 (some 52) (-1) v (z_mk L Dh S R nx sl) = some (z_mk L Dh S R nx sl) := fun v => by rw [E191_113, if_neg (by decide)]
      rw [h113, if_pos (show (-1 : Int32) < 0 by decide)]
      by_cases d : nI n ≤ nI (pre.length + 1)
      · rw [if_pos d]
      · rw [if_neg d]
    · rw [if_pos (Int32.not_lt.mp c), if_neg c]
      have lenp : (pre ++ [s]).length = pre.length + 1 := by rw [List.length_append]; rfl
      have h := ih (pre ++ [s]) (z_ov (D 2 s) (D 1 s) e) (y_ad (y_ct D pre s) (r + D 4 s) (D 5 s)) (by rw [hl, List.append_assoc]; rfl) ov.1 (by have := z_le.mp (Int32.not_lt.mp c); omega)
      rw [lenp] at h
      exact h
def y_rm (S : Nat → Nat → Int32) (n : Nat) (st : y_Bs) : Prop := match st with
  | none => S 52 32 = -1
  | some b => S 52 32 = b.1 ∧ 0 ≤ b.1.toInt ∧ S 52 33 = b.2.1 ∧ b.2.2.length = n ∧ ∀ i (hi : i < b.2.2.length), S 75 i = nI b.2.2[i]
def y_bf (S S' : Nat → Nat → Int32) : Prop := (∀ b, b ≠ 52 → b ≠ 74 → b ≠ 75 → S' b = S b) ∧ ∀ q, q ≠ 32 → q ≠ 33 → S' 52 q = S 52 q
theorem y_bf_id : y_bf S S := ⟨fun _ _ _ _ => rfl, fun _ _ _ => rfl⟩
theorem y_bf_tr {S1 S2 : Nat → Nat → Int32} (h1 : y_bf S S1) (h2 : y_bf S1 S2) : y_bf S S2 := ⟨fun b x y z => (h2.1 b x y z).trans (h1.1 b x y z), fun q x y => (h2.2 q x y).trans (h1.2 q x y)⟩
theorem y_Dm_bf {D : Nat → Nat → Int32} {n : Nat} {S' : Nat → Nat → Int32} (h : y_Dm D n S) (e : y_bf S S') : y_Dm D n S' := by
  unfold y_Dm
  rw [e.2 28 (by decide) (by decide), e.1 73 (by decide) (by decide) (by decide)]
  exact h
theorem M191_162 {n : Nat} (hn : n ≤ 7) (h28 : S 52 28 = nI n) : ∀ (j i : Nat), i + j = n → L191_162 (some 52) (nI i) (z_mk L Dh (y_fl S 75 i (S 74)) R nx sl) = some (z_mk L Dh (y_fl S 75 n (S 74)) R nx sl) := by
  intro j
  induction j with
  | zero =>
    intro i hi
    obtain rfl : i = n := by omega
    rw [E191_162]
    simp only [g_52_28, z_bs, y_fl_ne (show (52 : Nat) ≠ 75 by decide), h28]
    rw [if_pos (nI_le (Nat.le_refl _) (by omega))]
  | succ j ih =>
    intro i hi
    have i1 : z_in (nI i) 7 = true := z_in_nI (by omega) (by decide)
    have i2 : (nI i).toNatClampNeg = i := z_cl (by omega)
    rw [E191_162]
    simp only [g_52_28, g_52_30, g_52_31, z_bs, y_fl_ne (show (52 : Nat) ≠ 75 by decide), y_fl_ne (show (74 : Nat) ≠ 75 by decide), h28, l_74 i1, s_75 i1, i2, y_fl_s, nI_1]
    rw [if_neg (nI_ge (by omega) (by omega))]
    exact ih (i + 1) (by omega)
theorem M191_113 {n : Nat} (hn : n ≤ 7) {e r : Int32} {l : List Nat} {st : y_Bs} (he : 0 ≤ e.toInt) (hr0 : 0 ≤ r.toInt) (h28 : S 52 28 = nI n) (ho : y_or S n l) (hr : y_rm S n st) : ∃ S', L191_113 (some 52) e r (z_mk L Dh S R nx sl) = some (z_mk L Dh S' R nx sl) ∧ y_rm S' n (y_kb st e r l) ∧ S' 74 = S 74 ∧ y_bf S S' := by
  have e0 : (0 : Int32).toInt = 0 := rfl
  have set : ∃ S', ((z_pI 0 (z_mk L Dh S R nx sl) (some 52) 11 32 r).bind fun h7 => (z_pI 0 h7 (some 52) 11 33 e).bind fun h8 => L191_162 (some 52) (0 : Int32) h8) = some (z_mk L Dh S' R nx sl) ∧ y_rm S' n (some (r, e, l)) ∧ S' 74 = S 74 ∧ y_bf S S' := by
    simp only [p_52_32, p_52_33, z_bs]
    have h := M191_162 (L := L) (Dh := Dh) (S := z_ups (z_ups S 52 32 r) 52 33 e) (R := R) (nx := nx) (sl := sl) hn (by rw [z_upsK (by decide), z_upsK (by decide)]; exact h28) n 0 (by omega)
    rw [y_fl_0] at h
    refine ⟨_, h, ⟨?_, hr0, ?_, ho.1, fun i hi => ?_⟩, ?_, fun b x y z => ?_, fun q x y => ?_⟩
    · rw [y_fl_ne (by decide), z_upsK (by decide), z_upsS]
    · rw [y_fl_ne (by decide), z_upsS]
    · rw [y_fl_a, if_pos (by have h1 : i < l.length := hi; rw [ho.1] at h1; exact h1), z_ups_ne (by decide), z_ups_ne (by decide)]
      exact ho.2.1 i hi
    · rw [y_fl_ne (by decide), z_ups_ne (by decide), z_ups_ne (by decide)]
    · rw [y_fl_ne z, z_ups_ne x, z_ups_ne x]
    · rw [y_fl_ne (by decide), z_upsK y, z_upsK x]
  rw [E191_113, if_pos (z_le.mpr (show (0 : Int32).toInt ≤ _ by omega))]
  cases st with
  | none =>
    have hr : S 52 32 = -1 := hr
    simp only [g_52_32, z_bs, hr]
    rw [if_pos (by decide)]
    exact set
  | some b =>
    obtain ⟨r1, r2, r3, r4, r5⟩ := id hr
    simp only [g_52_32, g_52_33, z_bs, r1, r3]
    rw [if_neg (Int32.not_lt.mpr (z_le.mpr (show (0 : Int32).toInt ≤ _ by omega)))]
    show ∃ S', _ ∧ y_rm S' n (if b.1 < r then some b else if ¬ r = b.1 then some (r, e, l) else if e < b.2.1 then some (r, e, l) else some b) ∧ _
    by_cases c1 : b.1 < r
    · rw [if_pos c1, if_pos c1]; exact ⟨S, rfl, hr, rfl, y_bf_id⟩
    · rw [if_neg c1, if_neg c1]
      by_cases c2 : r = b.1
      · rw [if_neg (show ¬ ¬ r = b.1 from fun q => q c2), if_neg (show ¬ ¬ r = b.1 from fun q => q c2)]
        by_cases c3 : e < b.2.1
        · rw [if_pos c3, if_pos c3]; exact set
        · rw [if_neg c3, if_neg c3]; exact ⟨S, rfl, hr, rfl, y_bf_id⟩
      · rw [if_pos c2, if_pos c2]; exact set
theorem M191 {D : Nat → Nat → Int32} {n : Nat} {l : List Nat} {st : y_Bs} (hn : n ≤ 7) (hm : y_Dm D n S) (hD : y_Db D n) (ho : y_or S n l) (hr : y_rm S n st) : ∃ S', z_cV 2 191 [.inr (.inr (some 52))] (z_mk L Dh S R nx sl) = some (z_mk L Dh S' R nx sl) ∧ y_rm S' n (y_fo D st l) ∧ S' 74 = S 74 ∧ y_bf S S' := by
  have e0 : (0 : Int32).toInt = 0 := rfl
  have h : L191_6 (some 52) 0 0 0 (z_mk L Dh S R nx sl) = match y_el D l [] (0, 0) with
    | none => some (z_mk L Dh S R nx sl)
    | some x => L191_113 (some 52) x.1 x.2 (z_mk L Dh S R nx sl) := M191_6 (L := L) (Dh := Dh) (R := R) (nx := nx) (sl := sl) hn hm hD ho l [] 0 0 rfl (by omega) (by omega)
  rw [E191, h]
  unfold y_fo
  cases hx : y_el D l [] (0, 0) with
  | none => exact ⟨S, rfl, hr, rfl, y_bf_id⟩
  | some x =>
    have hb := y_el_b hD l [] (0, 0) x (by rw [ho.1, List.length_nil]; omega) (fun i hi => ho.2.2 i hi) (by show (0 : Int) ≤ (0 : Int32).toInt; omega) (by show (0 : Int32).toInt ≤ 999; omega) (by show (0 : Int) ≤ (0 : Int32).toInt; omega) (by show (0 : Int32).toInt ≤ _; rw [e0, List.length_nil]; omega) hx
    exact M191_113 hn hb.1 hb.2.2 hm.1 ho hr
/-! the next order -/
theorem y_gD {l : List Nat} {i : Nat} (hi : i < l.length) : l.getD i 0 = l[i] := by
  rw [List.getD_eq_getElem?_getD, List.getElem?_eq_getElem hi]
  rfl
theorem y_or_at {n i : Nat} {l : List Nat} (ho : y_or S n l) (hi : i < n) : S 74 i = nI (l.getD i 0) ∧ l.getD i 0 < n := by
  have h : i < l.length := by rw [ho.1]; exact hi
  rw [y_gD h]
  exact ⟨ho.2.1 i h, ho.2.2 i h⟩
theorem y_sw_or {n a b : Nat} {l : List Nat} (ho : y_or S n l) (ha : a < n) (hb : b < n) : y_or (z_ups (z_ups S 74 a (S 74 b)) 74 b (S 74 a)) n (y_sw l a b) := by
  have hl : (y_sw l a b).length = n := by unfold y_sw; rw [List.length_set, List.length_set]; exact ho.1
  have hget : ∀ i (hi : i < (y_sw l a b).length), (y_sw l a b)[i] = if b = i then l.getD a 0 else if a = i then l.getD b 0 else l.getD i 0 := fun i hi => by
    have hi2 : i < l.length := by rw [ho.1]; exact Nat.lt_of_lt_of_eq hi hl
    have hi' : i < ((l.set a (l.getD b 0)).set b (l.getD a 0)).length := hi
    show ((l.set a (l.getD b 0)).set b (l.getD a 0))[i]'hi' = _
    rw [List.getElem_set]
    by_cases c : b = i
    · rw [if_pos c, if_pos c]
    · rw [if_neg c, if_neg c, List.getElem_set, y_gD hi2]
  refine ⟨hl, fun i hi => ?_, fun i hi => ?_⟩
  · have hi2 : i < n := Nat.lt_of_lt_of_eq hi hl
    rw [hget i hi, z_upsE, if_pos rfl, z_upsE, if_pos rfl]
    by_cases c : i = b
    · rw [if_pos c, if_pos c.symm]; exact (y_or_at ho ha).1
    · rw [if_neg c, if_neg (show ¬ b = i from fun q => c q.symm)]
      by_cases d : i = a
      · rw [if_pos d, if_pos d.symm]; exact (y_or_at ho hb).1
      · rw [if_neg d, if_neg (show ¬ a = i from fun q => d q.symm)]; exact (y_or_at ho hi2).1
  · have hi2 : i < n := Nat.lt_of_lt_of_eq hi hl
    rw [hget i hi]
    by_cases c : b = i
    · rw [if_pos c]; exact (y_or_at ho ha).2
    · rw [if_neg c]
      by_cases d : a = i
      · rw [if_pos d]; exact (y_or_at ho hb).2
      · rw [if_neg d]; exact (y_or_at ho hi2).2
theorem M193 {n a b : Nat} (hn : n ≤ 7) (ha : a < n) (hb : b < n) : z_cV 1 193 [.inr (.inr (some 52)), .inl (nI a), .inl (nI b)] (z_mk L Dh S R nx sl) = some (z_mk L Dh (z_ups (z_ups S 74 a (S 74 b)) 74 b (S 74 a)) R nx sl) := by
  have a1 : z_in (nI a) 7 = true := z_in_nI (by omega) (by decide)
  have a2 : (nI a).toNatClampNeg = a := z_cl (by omega)
  have b1 : z_in (nI b) 7 = true := z_in_nI (by omega) (by decide)
  have b2 : (nI b).toNatClampNeg = b := z_cl (by omega)
  rw [E193]
  simp only [g_52_30, z_bs, l_74 a1, l_74 b1, s_74 a1, s_74 b1, a2, b2]
theorem y_m1s (i : Nat) : nI (i + 1) + (-1 : Int32) = nI i := by
  rw [← nI_1, Int32.add_assoc]
  show nI i + ((1 : Int32) + -1) = nI i
  rw [show (1 : Int32) + -1 = 0 from rfl, Int32.add_zero]
theorem M192_86 {n : Nat} (hn : n ≤ 7) : ∀ (k a b : Nat) (S : Nat → Nat → Int32) (l : List Nat), y_or S n l → b - a ≤ k → a ≤ 100 → b < n → ∃ S', L192_86 (some 52) (nI a) (nI b) (z_mk L Dh S R nx sl) = some (1, z_mk L Dh S' R nx sl) ∧ y_or S' n (y_rv k l a b) ∧ ∀ b, b ≠ 74 → S' b = S b := by
  intro k
  induction k with
  | zero =>
    intro a b S l ho hk ha hb
    refine ⟨S, ?_, ho, fun _ _ => rfl⟩
    rw [E192_86, if_pos (nI_le (by omega) (by omega))]
  | succ k ih =>
    intro a b S l ho hk ha hb
    show ∃ S', _ ∧ y_or S' n (if b ≤ a then l else y_rv k (y_sw l a b) (a + 1) (b - 1)) ∧ _
    by_cases c : b ≤ a
    · rw [if_pos c]
      refine ⟨S, ?_, ho, fun _ _ => rfl⟩
      rw [E192_86, if_pos (nI_le c (by omega))]
    · rw [if_neg c]
      obtain ⟨S', e1, e2, e3⟩ := ih (a + 1) (b - 1) _ _ (y_sw_or ho (show a < n by omega) hb) (by omega) (by omega) (by omega)
      refine ⟨S', ?_, e2, fun x hx => by rw [e3 x hx, z_ups_ne hx, z_ups_ne hx]⟩
      rw [E192_86, if_neg (nI_ge (by omega) (by omega))]
      simp only [o_52, z_bs, M193 hn (show a < n by omega) hb, nI_1]
      rw [show nI b + (-1 : Int32) = nI (b - 1) by have := y_m1s (b - 1); rw [show b - 1 + 1 = b by omega] at this; exact this]
      exact e1
theorem M192_47 {n i : Nat} {l : List Nat} (hn : n ≤ 7) (ho : y_or S n l) (h28 : S 52 28 = nI n) (hi : i < n) : ∀ (m : Nat), i < m → m ≤ n → ∃ S', L192_47 (some 52) (nI i) (nI m - 1) (z_mk L Dh S R nx sl) = some (1, z_mk L Dh S' R nx sl) ∧ y_or S' n (y_rv n (y_sw l i (y_nj l (l.getD i 0) m)) (i + 1) (n - 1)) ∧ ∀ b, b ≠ 74 → S' b = S b := by
  have i1 : z_in (nI i) 7 = true := z_in_nI (by omega) (by decide)
  have i2 : (nI i).toNatClampNeg = i := z_cl (by omega)
  have hi3 := y_or_at ho hi
  intro m
  induction m with
  | zero => intro h; omega
  | succ j ih =>
    intro hm hmn
    have hj : j < n := by omega
    have j1 : z_in (nI j) 7 = true := z_in_nI (by omega) (by decide)
    have j2 : (nI j).toNatClampNeg = j := z_cl (by omega)
    have hj3 := y_or_at ho hj
    rw [show nI (j + 1) - (1 : Int32) = nI j from z_nI_sub (a := j + 1) (b := 1) (by omega), E192_47]
    simp only [g_52_30, z_bs, l_74 i1, l_74 j1, i2, j2, hi3.1, hj3.1]
    show ∃ S', _ ∧ y_or S' n (y_rv n (y_sw l i (if l.getD i 0 ≤ l.getD j 0 then j else y_nj l (l.getD i 0) j)) (i + 1) (n - 1)) ∧ _
    by_cases c : l.getD i 0 ≤ l.getD j 0
    · rw [if_pos (nI_le c (by omega)), if_pos c]
      obtain ⟨S', e1, e2, e3⟩ := M192_86 (L := L) (Dh := Dh) (R := R) (nx := nx) (sl := sl) hn n (i + 1) (n - 1) _ _ (y_sw_or ho hi hj) (by omega) (by omega) (by omega)
      refine ⟨S', ?_, e2, fun x hx => by rw [e3 x hx, z_ups_ne hx, z_ups_ne hx]⟩
      simp only [o_52, z_bs, M193 hn hi hj, g_52_28, z_ups_ne (show (52 : Nat) ≠ 74 by decide), h28, nI_1]
      rw [show nI n - (1 : Int32) = nI (n - 1) from z_nI_sub (a := n) (b := 1) (by omega)]
      exact e1
    · rw [if_neg (nI_ge (by omega) (by omega)), if_neg c]
      have hne : i ≠ j := fun q => c (by rw [q]; exact Nat.le_refl _)
      obtain ⟨S', e1, e2, e3⟩ := ih (by omega) (by omega)
      refine ⟨S', ?_, e2, e3⟩
      rw [show nI j + (-1 : Int32) = nI j - 1 by rw [Int32.sub_eq_add_neg]]
      exact e1
theorem M192_7 {n : Nat} {l : List Nat} (hn : n ≤ 7) (ho : y_or S n l) (h28 : S 52 28 = nI n) : ∀ (m : Nat), m ≤ n - 1 → ∃ S', L192_7 (some 52) (nI m - 1) (z_mk L Dh S R nx sl) = some (if (y_ni l m).isNone = true then 0 else 1, z_mk L Dh S' R nx sl) ∧ (∀ i, y_ni l m = some i → y_or S' n (y_rv n (y_sw l i (y_nj l (l.getD i 0) n)) (i + 1) (n - 1))) ∧ ∀ b, b ≠ 74 → S' b = S b := by
  intro m
  induction m with
  | zero =>
    intro hm
    refine ⟨S, ?_, (fun i hi => by cases hi), fun _ _ => rfl⟩
    rw [E192_7, if_pos (by decide), if_neg (by decide)]
    rfl
  | succ i ih =>
    intro hm
    have hi : i < n := by omega
    have hi' : i + 1 < n := by omega
    have i1 : z_in (nI i) 7 = true := z_in_nI (by omega) (by decide)
    have i2 : (nI i).toNatClampNeg = i := z_cl (by omega)
    have k1 : z_in (nI (i + 1)) 7 = true := z_in_nI (by omega) (by decide)
    have k2 : (nI (i + 1)).toNatClampNeg = i + 1 := z_cl (by omega)
    have hi3 := y_or_at ho hi
    have hk3 := y_or_at ho hi'
    rw [show nI (i + 1) - (1 : Int32) = nI i from z_nI_sub (a := i + 1) (b := 1) (by omega), E192_7, if_neg (nI_pos (by omega)), nI_1]
    simp only [g_52_30, z_bs, l_74 i1, l_74 k1, i2, k2, hi3.1, hk3.1]
    have hni : y_ni l (i + 1) = if l.getD i 0 ≤ l.getD (i + 1) 0 then some i else y_ni l i := rfl
    rw [hni]
    by_cases c : l.getD i 0 ≤ l.getD (i + 1) 0
    · rw [if_pos (nI_le c (by omega)), if_pos (Int32.not_lt.mp (nI_pos (by omega))), if_pos c]
      simp only [g_52_28, z_bs, h28]
      obtain ⟨S', e1, e2, e3⟩ := M192_47 (L := L) (Dh := Dh) (R := R) (nx := nx) (sl := sl) hn ho h28 hi n hi (Nat.le_refl _)
      exact ⟨S', e1, fun k hk => by rw [← Option.some.inj hk]; exact e2, e3⟩
    · rw [if_neg (nI_ge (by omega) (by omega)), if_neg c]
      rw [show nI i + (-1 : Int32) = nI i - 1 by rw [Int32.sub_eq_add_neg]]
      exact ih (by omega)
theorem M192 {n : Nat} {l : List Nat} (hn : n ≤ 7) (ho : y_or S n l) (h28 : S 52 28 = nI n) : ∃ S', z_cI 2 192 [.inr (.inr (some 52))] (z_mk L Dh S R nx sl) = some (if (y_nxt n l).isNone = true then 0 else 1, z_mk L Dh S' R nx sl) ∧ (∀ l', y_nxt n l = some l' → y_or S' n l') ∧ ∀ b, b ≠ 74 → S' b = S b := by
  rw [E192]
  simp only [g_52_28, z_bs, h28]
  by_cases c : n = 0
  · subst c
    have hx : y_nxt 0 l = none := rfl
    refine ⟨S, ?_, (fun l' h => by rw [hx] at h; cases h), fun _ _ => rfl⟩
    rw [E192_7, if_pos (by decide), if_neg (by decide), hx]
    rfl
  · obtain ⟨S', e1, e2, e3⟩ := M192_7 (L := L) (Dh := Dh) (R := R) (nx := nx) (sl := sl) hn ho h28 (n - 1) (Nat.le_refl _)
    have e : nI n - (2 : Int32) = nI (n - 1) - 1 := by
      rw [show nI (n - 1) = nI n - 1 from (z_nI_sub (a := n) (b := 1) (by omega)).symm, Int32.sub_eq_add_neg, Int32.sub_eq_add_neg, Int32.sub_eq_add_neg, Int32.add_assoc]
      rfl
    rw [e]
    unfold y_nxt
    cases hq : y_ni l (n - 1) with
    | none =>
      rw [hq] at e1
      exact ⟨S', e1, (fun l' h => by cases h), e3⟩
    | some i =>
      rw [hq] at e1
      exact ⟨S', e1, fun l' h => by rw [← Option.some.inj h]; exact e2 i hq, e3⟩
theorem M194_49 {D : Nat → Nat → Int32} {n : Nat} {w : Int32} (hn : n ≤ 7) (hD : y_Db D n) : ∀ (r : List (List Nat)) (l : List Nat) (k : Nat) (S : Nat → Nat → Int32) (st : y_Bs), y_chk n (l :: r) = true → k + (r.length + 1) ≤ 5040 → y_Dm D n S → y_or S n l → y_rm S n st → ∃ S', L194_49 (some 52) w 1 (nI k) (z_mk L Dh S R nx sl) = L194_75 (some 52) w (z_mk L Dh S' R nx sl) ∧ y_rm S' n ((l :: r).foldl (y_fo D) st) ∧ y_bf S S' := by
  intro r
  induction r with
  | nil =>
    intro l k S st hc hk hm ho hr
    have hc : (y_nxt n l).isNone = true := hc
    obtain ⟨S1, e1, e2, e3, e4⟩ := M191 (L := L) (Dh := Dh) (R := R) (nx := nx) (sl := sl) hn hm hD ho hr
    have ho1 : y_or S1 n l := by unfold y_or; rw [e3]; exact ho
    have m1 := y_Dm_bf hm e4
    obtain ⟨S2, f1, f2, f3⟩ := M192 (L := L) (Dh := Dh) (R := R) (nx := nx) (sl := sl) hn ho1 m1.1
    have hrm : y_rm S2 n (y_fo D st l) := by unfold y_rm; rw [f3 52 (by decide), f3 75 (by decide)]; exact e2
    refine ⟨S2, ?_, hrm, y_bf_tr e4 ⟨fun b _ y _ => f3 b y, fun q _ _ => by rw [f3 52 (by decide)]⟩⟩
    rw [E194_49, if_neg (show ¬ (5040 : Int32) ≤ nI k from nI_ge (b := 5040) (by omega) (by decide)), if_neg (by decide)]
    simp only [o_52, z_bs, e1, f1, hc, z_iT, nI_1]
    rw [E194_49, if_pos rfl]
    by_cases d : (5040 : Int32) ≤ nI (k + 1)
    · rw [if_pos d]
    · rw [if_neg d]
  | cons l' r ih =>
    intro l k S st hc hk hm ho hr
    have hc : ((y_nxt n l == some l') && y_chk n (l' :: r)) = true := hc
    rw [Bool.and_eq_true] at hc
    have hnx : y_nxt n l = some l' := eq_of_beq hc.1
    have hll : (l' :: r).length = r.length + 1 := rfl
    obtain ⟨S1, e1, e2, e3, e4⟩ := M191 (L := L) (Dh := Dh) (R := R) (nx := nx) (sl := sl) hn hm hD ho hr
    have ho1 : y_or S1 n l := by unfold y_or; rw [e3]; exact ho
    have m1 := y_Dm_bf hm e4
    obtain ⟨S2, f1, f2, f3⟩ := M192 (L := L) (Dh := Dh) (R := R) (nx := nx) (sl := sl) hn ho1 m1.1
    have hrm : y_rm S2 n (y_fo D st l) := by unfold y_rm; rw [f3 52 (by decide), f3 75 (by decide)]; exact e2
    have bf2 : y_bf S S2 := y_bf_tr e4 ⟨fun b _ y _ => f3 b y, fun q _ _ => by rw [f3 52 (by decide)]⟩
    obtain ⟨S3, g1, g2, g3⟩ := ih l' (k + 1) S2 _ hc.2 (by omega) (y_Dm_bf hm bf2) (f2 l' hnx) hrm
    refine ⟨S3, ?_, g2, y_bf_tr bf2 g3⟩
    rw [E194_49, if_neg (show ¬ (5040 : Int32) ≤ nI k from nI_ge (b := 5040) (by omega) (by decide)), if_neg (by decide)]
    have hno : (y_nxt n l).isNone = false := by rw [hnx]; rfl
    simp only [o_52, z_bs, e1, f1, hno, z_ff, z_iF, nI_1]
    exact g1
end ZSY
