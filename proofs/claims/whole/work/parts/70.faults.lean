section ZTE
variable {L : Nat} {Dh : Nat → z_Sh} {S : Nat → Nat → Int32} {R : Nat → Nat → Option Nat} {nx sl : Nat}
variable {f : Nat → Int32} {n : Nat} {val : Nat → Int32}
/-! the model looks for faults -/
def y_mt (S : Nat → Nat → Int32) (f : Nat → Int32) (n : Nat) : Prop := S 52 18 = nI n ∧ n ≤ 60 ∧ ∀ i, i < n → S 65 i = f i
theorem y_mt_fr {S' : Nat → Nat → Int32} (h : y_mt S f n) (e : ∀ b, b ≠ 68 → S' b = S b) : y_mt S' f n := by
  unfold y_mt
  rw [e 52 (by decide), e 65 (by decide)]
  exact h
theorem y_mt_at (h : y_mt S f n) {a : Nat} (ha : a < n) : z_ldB (z_mk L Dh S R nx sl) (some 65) (nI a) = some (f a) := by
  have := h.2.1
  rw [l_65 (z_in_nI (by omega) (by decide)), z_cl (by omega), h.2.2 a ha]
theorem M172 {b : Int32} {h : z_H} : z_cI 1 172 [.inr (.inr (some 52)), .inl b] h = some (if y_id b = true then 1 else 0, h) := by
  rw [E172]
  by_cases c1 : b < 48
  · rw [if_pos c1, if_neg (fun q => ((y_idI b).mp q).1 c1)]
  · rw [if_neg c1]
    by_cases c2 : 57 < b
    · rw [if_pos c2, if_neg (fun q => ((y_idI b).mp q).2 c2)]
    · rw [if_neg c2, if_pos ((y_idI b).mpr ⟨c1, c2⟩)]
theorem M173 {b : Int32} {h : z_H} : z_cI 1 173 [.inr (.inr (some 52)), .inl b] h = some (if (y_lt b).isSome = true then 1 else 0, h) := by
  rw [E173]
  unfold y_lt
  by_cases c0 : b = 119
  · rw [if_pos c0, if_pos c0]; rfl
  · rw [if_neg c0, if_neg c0]
    by_cases c1 : b = 103
    · rw [if_pos c1, if_pos c1]; rfl
    · rw [if_neg c1, if_neg c1]
      by_cases c2 : b = 115
      · rw [if_pos c2, if_pos c2]; rfl
      · rw [if_neg c2, if_neg c2]
        by_cases c3 : b = 116
        · rw [if_pos c3, if_pos c3]; rfl
        · rw [if_neg c3, if_neg c3]
          by_cases c4 : b = 104
          · rw [if_pos c4, if_pos c4]; rfl
          · rw [if_neg c4, if_neg c4]
            by_cases c5 : b = 113
            · rw [if_pos c5, if_pos c5]; rfl
            · rw [if_neg c5, if_neg c5]
              by_cases c6 : b = 98
              · rw [if_neg (fun q => q c6), if_pos c6]; rfl
              · rw [if_pos c6, if_neg c6]; rfl
theorem y_lt_id {b : Int32} {i : Nat} (h : y_lt b = some i) : y_id b = false := by
  unfold y_lt at h
  by_cases c0 : b = 119
  · rw [c0]; rfl
  · rw [if_neg c0] at h
    by_cases c1 : b = 103
    · rw [c1]; rfl
    · rw [if_neg c1] at h
      by_cases c2 : b = 115
      · rw [c2]; rfl
      · rw [if_neg c2] at h
        by_cases c3 : b = 116
        · rw [c3]; rfl
        · rw [if_neg c3] at h
          by_cases c4 : b = 104
          · rw [c4]; rfl
          · rw [if_neg c4] at h
            by_cases c5 : b = 113
            · rw [c5]; rfl
            · rw [if_neg c5] at h
              by_cases c6 : b = 98
              · rw [c6]; rfl
              · rw [if_neg c6] at h; cases h
theorem M174_127 (h : y_mt S f n) {v1 v2 v3 b : Int32} (hb : y_lt b = none) {a : Nat} : ∀ (j c : Nat) (v : Int32), c + j = 4 → a + c ≤ n → L174_127 (some 52) v1 v2 v3 (nI a) b (nI c) (z_mk L Dh S R nx sl) = if (y_dgs f n j (a + c) v).1 = a then some (nI a, z_mk L Dh S R nx sl) else L174_16 (some 52) (v1 + 1) v2 v3 (nI (y_dgs f n j (a + c) v).1) (z_mk L Dh S R nx sl) := by
  have h60 := h.2.1
  intro j
  induction j with
  | zero =>
    intro c v hc ha
    obtain rfl : c = 4 := by omega
    rw [E174_127]
    simp only [o_52, z_bs, M173, hb, Option.isSome_none, z_ff, z_iF, z_e00, not_true]
    rw [if_pos (show (4 : Int32) ≤ nI 4 by decide), if_pos (by decide), if_neg (show ¬ (y_dgs f n 0 (a + 4) v).1 = a from fun q => absurd (show a + 4 = a from q) (by omega)), nI_add]
    rfl
  | succ j ih =>
    intro c v hc ha
    have stop : (if ¬ nI c = (0 : Int32) then L174_16 (some 52) (v1 + 1) v2 v3 (nI (a + c)) (z_mk L Dh S R nx sl) else some (nI a, z_mk L Dh S R nx sl)) = if (a + c, v).1 = a then some (nI a, z_mk L Dh S R nx sl) else L174_16 (some 52) (v1 + 1) v2 v3 (nI (a + c, v).1) (z_mk L Dh S R nx sl) := by
      show _ = if a + c = a then some (nI a, z_mk L Dh S R nx sl) else L174_16 (some 52) (v1 + 1) v2 v3 (nI (a + c)) (z_mk L Dh S R nx sl)
      by_cases q : c = 0
      · subst q; rw [if_neg (fun q => q rfl), if_pos (by omega)]
      · rw [if_pos (nI_ne0 (by omega) (by omega)), if_neg (by omega)]
    rw [E174_127, y_dgs_s]
    simp only [o_52, z_bs, M173, hb, Option.isSome_none, z_ff, z_iF, z_e00, not_true, nI_add, g_52_18, h.1]
    rw [if_neg (show ¬ (4 : Int32) ≤ nI c from nI_ge (b := 4) (by omega) (by decide))]
    by_cases d : a + c < n
    · rw [if_neg (nI_ge d (by omega))]
      simp only [g_52_17, z_bs, y_mt_at h d, o_52, M172]
      by_cases e : y_id (f (a + c)) = true
      · rw [if_pos e, if_neg (by decide), if_pos (show a + c < n ∧ y_id (f (a + c)) = true from ⟨d, e⟩), nI_1, ih (c + 1) (((10 : Int32) * v + f (a + c)) - 48) (by omega) (by omega), show a + (c + 1) = a + c + 1 by omega]
      · rw [if_neg e, if_pos rfl, if_neg (show ¬ (a + c < n ∧ y_id (f (a + c)) = true) from fun q => e q.2)]
        exact stop
    · rw [if_pos (nI_le (by omega) (by omega)), if_neg (show ¬ (a + c < n ∧ y_id (f (a + c)) = true) from fun q => d q.1)]
      exact stop
theorem M174_un (h : y_mt S f n) {v2 v3 : Int32} {a m : Nat} (ha : a < n) (hm : m = 0 ∨ m = 2) : L174_103 (some 52) (nI m) v2 v3 (nI a) (f a) (z_mk L Dh S R nx sl) = match y_unt f n val a with
    | .inl p => some (nI p, z_mk L Dh S R nx sl)
    | .inr x => L174_16 (some 52) (nI (m + 1)) v2 v3 (nI x.1) (z_mk L Dh S R nx sl) := by
  have h60 := h.2.1
  have e103 : L174_103 (some 52) (nI m) v2 v3 (nI a) (f a) (z_mk L Dh S R nx sl) = L174_127 (some 52) (nI m) v2 v3 (nI a) (f a) (if (y_lt (f a)).isSome = true then 1 else 0) (z_mk L Dh S R nx sl) := by
    rw [E174_103]
    simp only [o_52, z_bs, M173]
    have key : ∀ X Y : Option (Int32 × z_H), (if (if (y_lt (f a)).isSome = true then (1 : Int32) else 0) = 0 then X else Y) = if (y_lt (f a)).isSome = true then Y else X := fun X Y => by
      cases (y_lt (f a)).isSome <;> rfl
    rw [key]
    have fin : (if (y_lt (f a)).isSome = true then L174_127 (some 52) (nI m) v2 v3 (nI a) (f a) 1 (z_mk L Dh S R nx sl) else L174_127 (some 52) (nI m) v2 v3 (nI a) (f a) 0 (z_mk L Dh S R nx sl)) = L174_127 (some 52) (nI m) v2 v3 (nI a) (f a) (if (y_lt (f a)).isSome = true then 1 else 0) (z_mk L Dh S R nx sl) := by
      cases (y_lt (f a)).isSome <;> rfl
    rw [fin]
    rcases hm with rfl | rfl
    · rw [if_pos (by rfl)]
    · rw [if_neg (by decide), if_neg (fun q => q rfl)]
  rw [e103]
  unfold y_unt
  cases hy : y_lt (f a) with
  | none =>
    have := M174_127 (L := L) (Dh := Dh) (R := R) (nx := nx) (sl := sl) (v1 := nI m) (v2 := v2) (v3 := v3) h hy (a := a) 4 0 0 (by omega) (by omega)
    rw [Nat.add_zero, nI_1] at this
    show L174_127 (some 52) (nI m) v2 v3 (nI a) (f a) (nI 0) _ = _
    rw [this]
    by_cases c : (y_dgs f n 4 a 0).1 = a
    · rw [if_pos c, if_pos c]
      unfold y_unl
      rw [if_pos ha, hy]
    · rw [if_neg c, if_neg c]
  | some i =>
    have hid := y_lt_id hy
    have e4 : y_dgs f n 4 a 0 = (a, 0) := by
      rw [show (4 : Nat) = 3 + 1 from rfl, y_dgs_s, if_neg (fun q => by rw [hid] at q; cases q.2)]
    rw [e4, if_pos rfl]
    unfold y_unl
    rw [if_pos ha, hy]
    show L174_127 (some 52) (nI m) v2 v3 (nI a) (f a) 1 _ = L174_16 (some 52) (nI (m + 1)) v2 v3 (nI (a + 1)) _
    rw [E174_127]
    simp only [o_52, z_bs, M173, hy, Option.isSome_some, z_tt, z_iT, z_10, not_false_eq_true, nI_1]
theorem M174_end (h : y_mt S f n) {v2 v3 : Int32} {m : Nat} (hm : m < 3) : L174_16 (some 52) (nI m) v2 v3 (nI n) (z_mk L Dh S R nx sl) = some (nI n, z_mk L Dh S R nx sl) := by
  have h60 := h.2.1
  rw [E174_16]
  simp only [g_52_18, z_bs, h.1]
  rw [if_pos (nI_le (Nat.le_refl _) (by omega))]
  by_cases c : (0 : Int32) < v3
  · rw [if_pos c]
  · rw [if_neg c, if_neg (show ¬ nI m = (3 : Int32) from fun q => by have := (nI_eq (b := 3) (by omega) (by decide)).mp q; omega)]
theorem M174_in (h : y_mt S f n) {v1 v2 v3 : Int32} {a : Nat} (ha : a < n) : L174_16 (some 52) v1 v2 v3 (nI a) (z_mk L Dh S R nx sl) = if ¬ v1 = (0 : Int32) then (L174_103 (some 52) v1 v2 v3 (nI a) (f a) (z_mk L Dh S R nx sl)) else (if f a = (33 : Int32) then (L174_52 (some 52) v1 v2 v3 (nI a) (f a) (z_mk L Dh S R nx sl)) else (if ¬ f a = (40 : Int32) then (L174_103 (some 52) v1 v2 v3 (nI a) (f a) (z_mk L Dh S R nx sl)) else (L174_52 (some 52) v1 v2 v3 (nI a) (f a) (z_mk L Dh S R nx sl)))) := by
  have h60 := h.2.1
  rw [E174_16]
  simp only [g_52_18, g_52_17, z_bs, h.1, y_mt_at h ha]
  rw [if_neg (nI_ge ha (by omega))]
theorem M174_cmp (h : y_mt S f n) {v2 v3 : Int32} {a : Nat} (ha : a ≤ n) (c33 : ¬ (a < n ∧ f a = 33)) (c40 : ¬ (a < n ∧ f a = 40)) : L174_16 (some 52) 0 v2 v3 (nI a) (z_mk L Dh S R nx sl) = match y_cpr f n val a with
    | .inl p => some (nI p, z_mk L Dh S R nx sl)
    | .inr x => L174_16 (some 52) 3 v2 v3 (nI x.1) (z_mk L Dh S R nx sl) := by
  have hend : ∀ m, m < 3 → y_unt f n val n = .inl n := fun m _ => by
    unfold y_unt
    rw [show (4 : Nat) = 3 + 1 from rfl, y_dgs_s, if_neg (show ¬ (n < n ∧ y_id (f n) = true) from fun q => absurd q.1 (Nat.lt_irrefl _)), if_pos rfl]
    unfold y_unl
    rw [if_neg (Nat.lt_irrefl _)]
  have hb := y_unt_b f n val a ha
  unfold y_cpr
  by_cases d : a < n
  · have e1 : L174_16 (some 52) 0 v2 v3 (nI a) (z_mk L Dh S R nx sl) = L174_103 (some 52) (nI 0) v2 v3 (nI a) (f a) (z_mk L Dh S R nx sl) := by
      rw [M174_in h d, if_neg (fun q => q rfl), if_neg (fun q => c33 ⟨d, q⟩), if_pos (fun q => c40 ⟨d, q⟩)]
      rfl
    rw [e1, M174_un (val := val) h d (Or.inl rfl)]
    cases hu : y_unt f n val a with
    | inl p => rfl
    | inr x =>
      rw [hu] at hb
      obtain ⟨w1, w2⟩ := hb
      show L174_16 (some 52) (nI (0 + 1)) v2 v3 (nI x.1) _ = match (if x.1 < n ∧ y_sg (f x.1) = true then (match y_unt f n val (x.1 + 1) with | .inl p => .inl p | .inr y => .inr (y.1, y_cmv (f x.1) x.2 y.2)) else .inl x.1 : y_Rs Bool) with
        | .inl p => some (nI p, z_mk L Dh S R nx sl)
        | .inr x => L174_16 (some 52) 3 v2 v3 (nI x.1) (z_mk L Dh S R nx sl)
      by_cases g : x.1 < n
      · rw [M174_in h g, if_pos (by decide), E174_103, if_neg (by decide), if_pos (by decide), if_neg (fun q => q rfl), nI_1]
        have sgn : ∀ X Y : Option (Int32 × z_H), (if f x.1 = 60 then X else if f x.1 = 61 then X else if f x.1 = 62 then X else Y) = if y_sg (f x.1) = true then X else Y := fun X Y => by
          unfold y_sg
          by_cases q1 : f x.1 = 60
          · rw [if_pos q1, decide_eq_true q1, Bool.true_or, Bool.true_or, if_pos rfl]
          · rw [if_neg q1, decide_eq_false q1, Bool.false_or]
            by_cases q2 : f x.1 = 61
            · rw [if_pos q2, decide_eq_true q2, Bool.true_or, if_pos rfl]
            · rw [if_neg q2, decide_eq_false q2, Bool.false_or]
              by_cases q3 : f x.1 = 62
              · rw [if_pos q3, decide_eq_true q3, if_pos rfl]
              · rw [if_neg q3, decide_eq_false q3, if_neg (by decide)]
        rw [sgn]
        by_cases s : y_sg (f x.1) = true
        · rw [if_pos s, if_pos ⟨g, s⟩]
          show L174_16 (some 52) (nI 2) v2 v3 (nI (x.1 + 1)) _ = _
          by_cases g2 : x.1 + 1 < n
          · rw [M174_in h g2, if_pos (by decide), M174_un (val := val) h g2 (Or.inr rfl)]
            cases y_unt f n val (x.1 + 1) with
            | inl p => rfl
            | inr y => rfl
          · have e : x.1 + 1 = n := by omega
            rw [e, M174_end h (by decide), hend 0 (by decide)]
        · rw [if_neg s, if_neg (fun q => s q.2)]
      · have e : x.1 = n := by omega
        rw [if_neg (fun q => g q.1), e]
        exact M174_end h (by decide)
  · have e : a = n := by omega
    subst e
    rw [hend 0 (by decide)]
    exact M174_end (m := 0) h (by decide)
/-- what the model does with a test -/
def y_f3 (L : Nat) (Dh : Nat → z_Sh) (S : Nat → Nat → Int32) (R : Nat → Nat → Option Nat) (nx sl D l c : Nat) (X : Option (Int32 × z_H)) (r : y_Rs Bool) : Prop := match r with
  | .inl p => ∃ S', X = some (nI p, z_mk L Dh S' R nx sl) ∧ ∀ b, b ≠ 68 → S' b = S b
  | .inr x => ∃ S' m, X = L174_16 (some 52) 3 (nI (D + m)) (nI l) (nI x.1) (z_mk L Dh S' R nx sl) ∧ D + m ≤ 5 ∧ S' 68 l = nI (c + m) ∧ (∀ i, i < l → S' 68 i = S 68 i) ∧ ∀ b, b ≠ 68 → S' b = S b
theorem y_os_stop {T : Nat → y_Rs Bool} : ∀ (j : Nat) (any all : Bool) (a : Nat) (x : Nat × Bool), y_os f n T j any all a = .inr x → ¬ (x.1 < n ∧ f x.1 = 38) ∧ ¬ (x.1 < n ∧ f x.1 = 124)
  | 0, any, all, a, x, h => by cases h
  | j + 1, any, all, a, x, h => by
    rw [y_os_s] at h
    cases hT : T a with
    | inl p => rw [hT] at h; cases h
    | inr y =>
      rw [hT] at h
      have h : (if y.1 < n ∧ f y.1 = 38 then y_os f n T j any (all && y.2) (y.1 + 1) else if y.1 < n ∧ f y.1 = 124 then y_os f n T j (any || (all && y.2)) true (y.1 + 1) else .inr (y.1, any || (all && y.2))) = .inr x := h
      by_cases c1 : y.1 < n ∧ f y.1 = 38
      · rw [if_pos c1] at h; exact y_os_stop j _ _ _ x h
      · rw [if_neg c1] at h
        by_cases c2 : y.1 < n ∧ f y.1 = 124
        · rw [if_pos c2] at h; exact y_os_stop j _ _ _ x h
        · rw [if_neg c2] at h
          have := Sum.inr.inj h
          rw [← this]
          exact ⟨c1, c2⟩
theorem M174_o {k : Nat} (hk : k ≤ 5) (hT : ∀ (l c a : Nat) (S : Nat → Nat → Int32), l ≤ 5 - k → y_mt S f n → S 68 l = nI c → a ≤ n → y_f3 L Dh S R nx sl (5 - k) l c (L174_16 (some 52) 0 (nI (5 - k)) (nI l) (nI a) (z_mk L Dh S R nx sl)) (y_tst f n val k a)) : ∀ (j : Nat) (any all : Bool) (l a : Nat) (S : Nat → Nat → Int32), l ≤ 5 - k → y_mt S f n → S 68 l = nI 0 → a ≤ n → n < a + j → y_f3 L Dh S R nx sl (5 - k) l 0 (L174_16 (some 52) 0 (nI (5 - k)) (nI l) (nI a) (z_mk L Dh S R nx sl)) (y_os f n (y_tst f n val k) j any all a) := by
  intro j
  induction j with
  | zero => intro any all l a S h1 h2 h3 h4 h5; omega
  | succ j ih =>
    intro any all l a S hl h h0 ha hf
    have h60 := h.2.1
    have ht := hT l 0 a S hl h h0 ha
    have hb := y_tst_b f n val k a ha
    rw [y_os_s]
    cases hr : y_tst f n val k a with
    | inl p => rw [hr] at ht; exact ht
    | inr x =>
      rw [hr] at ht hb
      obtain ⟨S', m, e1, e2, e3, e4, e5⟩ := ht
      obtain ⟨w1, w2⟩ := hb
      rw [Nat.zero_add] at e3
      have h' := y_mt_fr h e5
      have hl7 : z_in (nI l) 7 = true := z_in_nI (by omega) (by decide)
      have hlc : (nI l).toNatClampNeg = l := z_cl (by omega)
      show y_f3 L Dh S R nx sl (5 - k) l 0 _ (if x.1 < n ∧ f x.1 = 38 then y_os f n (y_tst f n val k) j any (all && x.2) (x.1 + 1) else if x.1 < n ∧ f x.1 = 124 then y_os f n (y_tst f n val k) j (any || (all && x.2)) true (x.1 + 1) else .inr (x.1, any || (all && x.2)))
      rw [e1]
      -- behind a sign the level is as new
      have nxt : x.1 < n → (f x.1 = 38 ∨ f x.1 = 124) → ∀ an al : Bool, y_f3 L Dh S R nx sl (5 - k) l 0 (L174_16 (some 52) 3 (nI (5 - k + m)) (nI l) (nI x.1) (z_mk L Dh S' R nx sl)) (y_os f n (y_tst f n val k) j an al (x.1 + 1)) := fun hx hs an al => by
        have e249 : L174_16 (some 52) 3 (nI (5 - k + m)) (nI l) (nI x.1) (z_mk L Dh S' R nx sl) = L174_16 (some 52) 0 (nI (5 - k)) (nI l) (nI (x.1 + 1)) (z_mk L Dh (z_ups S' 68 l 0) R nx sl) := by
          rw [M174_in h' hx, if_pos (by decide), E174_103, if_neg (by decide), if_pos (by decide), if_pos (by decide)]
          have e : ∀ Y : Option (Int32 × z_H), (if f x.1 = 38 then L174_249 (some 52) (nI (5 - k + m)) (nI l) (nI x.1) (z_mk L Dh S' R nx sl) else if ¬ f x.1 = 124 then Y else L174_249 (some 52) (nI (5 - k + m)) (nI l) (nI x.1) (z_mk L Dh S' R nx sl)) = L174_249 (some 52) (nI (5 - k + m)) (nI l) (nI x.1) (z_mk L Dh S' R nx sl) := fun Y => by
            rcases hs with hs | hs
            · rw [if_pos hs]
            · by_cases q : f x.1 = 38
              · rw [if_pos q]
              · rw [if_neg q, if_neg (fun q => q hs)]
          rw [e, E174_249]
          simp only [g_52_21, z_bs, l_68 hl7, s_68 hl7, hlc, e3, nI_1]
          rw [z_nI_sub (by omega), show 5 - k + m - m = 5 - k by omega]
        rw [e249]
        have hi := ih an al l (x.1 + 1) (z_ups S' 68 l 0) hl (y_mt_fr h' (fun b hb => z_ups_ne hb)) z_upsS (by omega) (by omega)
        cases hq : y_os f n (y_tst f n val k) j an al (x.1 + 1) with
        | inl p =>
          rw [hq] at hi
          obtain ⟨S2, q1, q2⟩ := hi
          exact ⟨S2, q1, fun b hb => by rw [q2 b hb, z_ups_ne hb, e5 b hb]⟩
        | inr y =>
          rw [hq] at hi
          obtain ⟨S2, m2, q1, q2, q3, q4, q5⟩ := hi
          exact ⟨S2, m2, q1, q2, q3, fun i hi => by rw [q4 i hi, z_upsK (by omega), e4 i hi], fun b hb => by rw [q5 b hb, z_ups_ne hb, e5 b hb]⟩
      by_cases c1 : x.1 < n ∧ f x.1 = 38
      · rw [if_pos c1]; exact nxt c1.1 (Or.inl c1.2) _ _
      · rw [if_neg c1]
        by_cases c2 : x.1 < n ∧ f x.1 = 124
        · rw [if_pos c2]; exact nxt c2.1 (Or.inr c2.2) _ _
        · rw [if_neg c2]
          exact ⟨S', m, rfl, e2, by rw [Nat.zero_add]; exact e3, e4, e5⟩
theorem M174_t : ∀ (k : Nat), k ≤ 5 → ∀ (l c a : Nat) (S : Nat → Nat → Int32), l ≤ 5 - k → y_mt S f n → S 68 l = nI c → a ≤ n → y_f3 L Dh S R nx sl (5 - k) l c (L174_16 (some 52) 0 (nI (5 - k)) (nI l) (nI a) (z_mk L Dh S R nx sl)) (y_tst f n val k a) := by
  have cmp : ∀ (k l c a : Nat) (S : Nat → Nat → Int32), k ≤ 5 → y_mt S f n → S 68 l = nI c → a ≤ n → ¬ (a < n ∧ f a = 33) → ¬ (a < n ∧ f a = 40) → y_f3 L Dh S R nx sl (5 - k) l c (L174_16 (some 52) 0 (nI (5 - k)) (nI l) (nI a) (z_mk L Dh S R nx sl)) (y_cpr f n val a) := fun k l c a S hk h h0 ha c1 c2 => by
    have e := M174_cmp (L := L) (Dh := Dh) (R := R) (nx := nx) (sl := sl) (val := val) (v2 := nI (5 - k)) (v3 := nI l) h ha c1 c2
    rw [e]
    cases y_cpr f n val a with
    | inl p => exact ⟨S, rfl, fun _ _ => rfl⟩
    | inr x => exact ⟨S, 0, rfl, by omega, h0, fun _ _ => rfl, fun _ _ => rfl⟩
  intro k
  induction k with
  | zero =>
    intro hk l c a S hl h h0 ha
    rw [y_tst_0]
    by_cases c0 : a < n ∧ (f a = 33 ∨ f a = 40)
    · rw [if_pos c0]
      refine ⟨S, ?_, fun _ _ => rfl⟩
      have e52 : L174_52 (some 52) 0 (nI (5 - 0)) (nI l) (nI a) (f a) (z_mk L Dh S R nx sl) = some (nI a, z_mk L Dh S R nx sl) := by rw [E174_52, if_neg (fun q => q rfl)]
      rw [M174_in h c0.1, if_neg (fun q => q rfl)]
      rcases c0.2 with q | q
      · rw [if_pos q, e52]
      · by_cases q2 : f a = 33
        · rw [if_pos q2, e52]
        · rw [if_neg q2, if_neg (fun w => w q), e52]
    · rw [if_neg c0]
      exact cmp 0 l c a S (by omega) h h0 ha (fun q => c0 ⟨q.1, Or.inl q.2⟩) (fun q => c0 ⟨q.1, Or.inr q.2⟩)
  | succ k ih =>
    intro hk l c a S hl h h0 ha
    have h60 := h.2.1
    have hl7 : z_in (nI l) 7 = true := z_in_nI (by omega) (by decide)
    have hlc : (nI l).toNatClampNeg = l := z_cl (by omega)
    have hk7 : z_in (nI (l + 1)) 7 = true := z_in_nI (by omega) (by decide)
    have hkc : (nI (l + 1)).toNatClampNeg = l + 1 := z_cl (by omega)
    have hdp : nI (5 - (k + 1)) + 1 = nI (5 - k) := by rw [nI_1, show 5 - (k + 1) + 1 = 5 - k by omega]
    have nd5 : ¬ nI (5 - (k + 1)) = (5 : Int32) := fun q => by have := (nI_eq (b := 5) (by omega) (by decide)).mp q; omega
    rw [y_tst_s]
    by_cases c1 : a < n ∧ f a = 33
    · rw [if_pos c1]
      have e1 : L174_16 (some 52) 0 (nI (5 - (k + 1))) (nI l) (nI a) (z_mk L Dh S R nx sl) = L174_16 (some 52) 0 (nI (5 - k)) (nI l) (nI (a + 1)) (z_mk L Dh (z_ups S 68 l (nI (c + 1))) R nx sl) := by
        rw [M174_in h c1.1, if_neg (fun q => q rfl), if_pos c1.2, c1.2, E174_52, if_pos nd5, if_neg (fun q => q rfl)]
        simp only [g_52_21, z_bs, l_68 hl7, s_68 hl7, hlc, h0, nI_1]
        rw [E174_80, if_pos (by decide), nI_1, show 5 - (k + 1) + 1 = 5 - k by omega]
      rw [e1]
      have hi := ih (by omega) l (c + 1) (a + 1) (z_ups S 68 l (nI (c + 1))) (by omega) (y_mt_fr h (fun b hb => z_ups_ne hb)) z_upsS (by omega)
      cases hq : y_tst f n val k (a + 1) with
      | inl p =>
        rw [hq] at hi
        obtain ⟨S2, q1, q2⟩ := hi
        exact ⟨S2, q1, fun b hb => by rw [q2 b hb, z_ups_ne hb]⟩
      | inr y =>
        rw [hq] at hi
        obtain ⟨S2, m2, q1, q2, q3, q4, q5⟩ := hi
        refine ⟨S2, m2 + 1, ?_, by omega, by rw [q3, show c + 1 + m2 = c + (m2 + 1) by omega], fun i hi => by rw [q4 i hi, z_upsK (by omega)], fun b hb => by rw [q5 b hb, z_ups_ne hb]⟩
        rw [q1, show 5 - (k + 1) + (m2 + 1) = 5 - k + m2 by omega]
    · rw [if_neg c1]
      by_cases c2 : a < n ∧ f a = 40
      · rw [if_pos c2]
        have n33 : ¬ f a = 33 := fun q => c1 ⟨c2.1, q⟩
        have e1 : L174_16 (some 52) 0 (nI (5 - (k + 1))) (nI l) (nI a) (z_mk L Dh S R nx sl) = L174_16 (some 52) 0 (nI (5 - k)) (nI (l + 1)) (nI (a + 1)) (z_mk L Dh (z_ups S 68 (l + 1) (nI 0)) R nx sl) := by
          rw [M174_in h c2.1, if_neg (fun q => q rfl), if_neg n33, if_neg (fun q => q c2.2), c2.2, E174_52, if_pos nd5, if_pos (by decide), E174_80, if_neg (fun q => q rfl)]
          simp only [g_52_21, z_bs, nI_1, s_68 hk7, hkc]
          rw [show 5 - (k + 1) + 1 = 5 - k by omega]
          rfl
        rw [e1]
        have h1 : y_mt (z_ups S 68 (l + 1) (nI 0)) f n := y_mt_fr h (fun b hb => z_ups_ne hb)
        have hi := M174_o (L := L) (Dh := Dh) (R := R) (nx := nx) (sl := sl) (k := k) (by omega) (fun l c a S hl h h0 ha => ih (by omega) l c a S hl h h0 ha) 61 false true (l + 1) (a + 1) (z_ups S 68 (l + 1) (nI 0)) (by omega) h1 z_upsS (by omega) (by omega)
        have hb := y_os_b f n (y_tst f n val k) (fun a ha => y_tst_b f n val k a ha) 61 false true (a + 1) (by omega)
        cases hq : y_os f n (y_tst f n val k) 61 false true (a + 1) with
        | inl p =>
          rw [hq] at hi
          obtain ⟨S2, q1, q2⟩ := hi
          exact ⟨S2, q1, fun b hb => by rw [q2 b hb, z_ups_ne hb]⟩
        | inr y =>
          have hst := y_os_stop 61 false true (a + 1) y hq
          rw [hq] at hi hb
          obtain ⟨S2, m2, q1, q2, q3, q4, q5⟩ := hi
          obtain ⟨w1, w2⟩ := hb
          rw [Nat.zero_add] at q3
          have h2 := y_mt_fr h1 q5
          have fr : ∀ b, b ≠ 68 → S2 b = S b := fun b hb => by rw [q5 b hb, z_ups_ne hb]
          show y_f3 L Dh S R nx sl (5 - (k + 1)) l c _ (if y.1 < n ∧ f y.1 = 41 then .inr (y.1 + 1, y.2) else .inl y.1)
          rw [q1]
          by_cases c3 : y.1 < n ∧ f y.1 = 41
          · rw [if_pos c3]
            refine ⟨S2, 0, ?_, by omega, ?_, fun i hi => ?_, fr⟩
            · rw [M174_in h2 c3.1, if_pos (by decide), c3.2, E174_103, if_neg (by decide), if_pos (by decide), if_pos (by decide), if_neg (by decide), if_pos (by decide), if_neg (fun q => q rfl), if_neg (show ¬ nI (l + 1) ≤ (0 : Int32) from nI_ge (a := 0) (by omega) (by omega))]
              simp only [g_52_21, z_bs, l_68 hk7, hkc, q3, nI_1, y_m1s]
              rw [z_nI_sub (by omega), show 5 - k + m2 - (m2 + 1) = 5 - (k + 1) + 0 by omega]
            · rw [q4 l (by omega), z_upsK (by omega)]; exact h0
            · rw [q4 i (by omega), z_upsK (by omega)]
          · rw [if_neg c3]
            refine ⟨S2, ?_, fr⟩
            by_cases g : y.1 < n
            · rw [M174_in h2 g, if_pos (by decide), E174_103, if_neg (by decide), if_pos (by decide), if_pos (by decide), if_neg (fun q => hst.1 ⟨g, q⟩), if_pos (fun q => hst.2 ⟨g, q⟩), if_pos (fun q => c3 ⟨g, q⟩)]
            · have e : y.1 = n := by omega
              rw [e, E174_16]
              simp only [g_52_18, z_bs, h2.1]
              rw [if_pos (nI_le (Nat.le_refl _) (by omega)), if_pos (show (0 : Int32) < nI (l + 1) from nI_lt (a := 0) (by omega) (by omega))]
      · rw [if_neg c2]
        exact cmp (k + 1) l c a S hk h h0 ha c1 c2
theorem M174 (h : y_mt S f n) (val : Nat → Int32) : ∃ S', z_cI 2 174 [.inr (.inr (some 52))] (z_mk L Dh S R nx sl) = some (y_ftI (y_flt f n val), z_mk L Dh S' R nx sl) ∧ ∀ b, b ≠ 68 → S' b = S b := by
  have h60 := h.2.1
  have h1 : y_mt (z_ups S 68 0 (nI 0)) f n := y_mt_fr h (fun b hb => z_ups_ne hb)
  have hi := M174_o (L := L) (Dh := Dh) (R := R) (nx := nx) (sl := sl) (val := val) (k := 5) (by omega) (fun l c a S hl h h0 ha => M174_t 5 (by omega) l c a S hl h h0 ha) 61 false true 0 0 (z_ups S 68 0 (nI 0)) (by omega) h1 z_upsS (by omega) (by omega)
  have e0 : z_cI 2 174 [.inr (.inr (some 52))] (z_mk L Dh S R nx sl) = L174_16 (some 52) 0 (nI (5 - 5)) (nI 0) (nI 0) (z_mk L Dh (z_ups S 68 0 (nI 0)) R nx sl) := by
    rw [E174]
    simp only [g_52_21, z_bs, s_68 (i := 0) rfl]
    rfl
  rw [e0]
  unfold y_flt y_all
  cases hq : y_os f n (y_tst f n val 5) 61 false true 0 with
  | inl p =>
    rw [hq] at hi
    obtain ⟨S2, q1, q2⟩ := hi
    exact ⟨S2, q1, fun b hb => by rw [q2 b hb, z_ups_ne hb]⟩
  | inr y =>
    have hb := y_os_b f n (y_tst f n val 5) (fun a ha => y_tst_b f n val 5 a ha) 61 false true 0 (by omega)
    have hst := y_os_stop 61 false true 0 y hq
    rw [hq] at hi hb
    obtain ⟨S2, m2, q1, q2, q3, q4, q5⟩ := hi
    obtain ⟨w1, w2⟩ := hb
    have h2 := y_mt_fr h1 q5
    refine ⟨S2, ?_, fun b hb => by rw [q5 b hb, z_ups_ne hb]⟩
    rw [q1]
    show _ = some (y_ftI (if y.1 < n then some y.1 else none), _)
    by_cases g : y.1 < n
    · rw [if_pos g, M174_in h2 g, if_pos (by decide), E174_103, if_neg (by decide), if_pos (by decide), if_pos (by decide), if_neg (fun q => hst.1 ⟨g, q⟩), if_pos (fun q => hst.2 ⟨g, q⟩)]
      show _ = some (nI y.1, _)
      by_cases c : f y.1 = 41
      · rw [if_neg (fun q => q c), if_pos (show nI 0 ≤ (0 : Int32) by decide)]
      · rw [if_pos c]
    · have e : y.1 = n := by omega
      rw [if_neg g, e, E174_16]
      simp only [g_52_18, z_bs, h2.1]
      rw [if_pos (nI_le (Nat.le_refl _) (by omega)), if_neg (show ¬ (0 : Int32) < nI 0 by decide), if_pos trivial]
      rfl
end ZTE
