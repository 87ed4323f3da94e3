/-! a mover and its way -/
abbrev y_Lg : Type := Nat × Nat × Nat × Nat
/-- where it is, l tenths behind the cue -/
def y_wk : List y_Lg → Nat → Nat → Nat
  | [], c, _ => c
  | g :: r, c, l => if l < g.2.1 * g.2.2.1 then y_al c g.1 (l / g.2.2.1) else if l - g.2.1 * g.2.2.1 < g.2.2.2 then y_al c g.1 g.2.1 else y_wk r (y_al c g.1 g.2.1) (l - g.2.1 * g.2.2.1 - g.2.2.2)
theorem y_wk_c (g : y_Lg) (r : List y_Lg) (c l : Nat) : y_wk (g :: r) c l = if l < g.2.1 * g.2.2.1 then y_al c g.1 (l / g.2.2.1) else if l - g.2.1 * g.2.2.1 < g.2.2.2 then y_al c g.1 g.2.1 else y_wk r (y_al c g.1 g.2.1) (l - g.2.1 * g.2.2.1 - g.2.2.2) := rfl
def y_gok (c : Nat) (g : y_Lg) : Prop := g.1 < 8 ∧ 1 ≤ g.2.1 ∧ g.2.1 ≤ 19 ∧ 1 ≤ g.2.2.1 ∧ g.2.2.1 ≤ 20 ∧ g.2.2.2 ≤ 99 ∧ y_onP c g.1 g.2.1
def y_okl : Nat → List y_Lg → Prop
  | _, [] => True
  | c, g :: r => y_gok c g ∧ y_okl (y_al c g.1 g.2.1) r
def y_end : Nat → List y_Lg → Nat
  | c, [] => c
  | c, g :: r => y_end (y_al c g.1 g.2.1) r
theorem y_end_lt : ∀ (r : List y_Lg) {c : Nat}, c < 400 → y_okl c r → y_end c r < 400
  | [], _, hc, _ => hc
  | g :: r, _, _, h => y_end_lt r (y_al_lt h.1.2.2.2.2.2.2) h.2
theorem y_end_snoc : ∀ (r : List y_Lg) (c : Nat) (g : y_Lg), y_end c (r ++ [g]) = y_al (y_end c r) g.1 g.2.1
  | [], _, _ => rfl
  | _ :: r, _, g => y_end_snoc r _ g
theorem y_okl_snoc : ∀ (r : List y_Lg) {c : Nat} {g : y_Lg}, y_okl c r → y_gok (y_end c r) g → y_okl c (r ++ [g])
  | [], _, _, _, h => ⟨h, trivial⟩
  | _ :: r, _, _, h1, h => ⟨h1.1, y_okl_snoc r h1.2 h⟩
theorem y_wk_0 : ∀ (r : List y_Lg) {c : Nat}, y_okl c r → y_wk r c 0 = c
  | [], _, _ => rfl
  | g :: r, c, h => by
    obtain ⟨⟨-, h1, -, h2, -⟩, -⟩ := h
    have : 0 < g.2.1 * g.2.2.1 := Nat.mul_pos h1 h2
    unfold y_wk
    rw [if_pos this, Nat.zero_div, y_al_0]
theorem y_div_lt {l n p : Nat} (h : l < n * p) : l / p < n := Nat.div_lt_of_lt_mul (by rw [Nat.mul_comm]; exact h)
theorem y_wk_lt : ∀ (r : List y_Lg) {c : Nat} (l : Nat), c < 400 → y_okl c r → y_wk r c l < 400
  | [], _, _, hc, _ => hc
  | g :: r, c, l, hc, h => by
    obtain ⟨⟨h0, h1, h2, h3, h4, h5, h6⟩, h7⟩ := h
    unfold y_wk
    by_cases c1 : l < g.2.1 * g.2.2.1
    · rw [if_pos c1]
      exact y_al_lt (y_on_le hc h0 h6 (Nat.le_of_lt (y_div_lt c1)))
    · rw [if_neg c1]
      by_cases c2 : l - g.2.1 * g.2.2.1 < g.2.2.2
      · rw [if_pos c2]; exact y_al_lt h6
      · rw [if_neg c2]; exact y_wk_lt r _ (y_al_lt h6) h7
/-- a mover's cells -/
def y_Ob (Dh : Nat → z_Sh) (R : Nat → Nat → Option Nat) (a : Nat) : Prop := 87 ≤ a ∧ Dh a = .inr (.inr (4, [0, 0, 0, 0, 0, 0, 0, 0, 2, 2, 2, 2, 2])) ∧ Dh (a + 1) = .inl (0, 10) ∧ Dh (a + 2) = .inl (0, 10) ∧ Dh (a + 3) = .inl (0, 10) ∧ Dh (a + 4) = .inl (0, 10) ∧ Dh (a + 5) = .inl (0, 601) ∧ R a 8 = some (a + 1) ∧ R a 9 = some (a + 2) ∧ R a 10 = some (a + 3) ∧ R a 11 = some (a + 4) ∧ R a 12 = some (a + 5)
theorem y_shp {L : Nat} {Dh : Nat → z_Sh} {a : Nat} (h : 87 ≤ a) : z_shp L Dh a = Dh a := by unfold z_shp; rw [if_neg (by omega)]
section ZSE
variable {L : Nat} {Dh : Nat → z_Sh} {S : Nat → Nat → Int32} {R : Nat → Nat → Option Nat} {nx sl : Nat}
variable {a : Nat}
theorem y_ob (h : y_Ob Dh R a) : z_ob (z_mk L Dh S R nx sl) (some a) 4 = some () := m_ob ((y_shp h.1).trans h.2.1)
theorem y_g0 (h : y_Ob Dh R a) : z_gI (z_mk L Dh S R nx sl) (some a) 4 0 = some (S a 0) := m_gI ((y_shp h.1).trans h.2.1) rfl (by decide)
theorem y_p0 (h : y_Ob Dh R a) (x : Int32) : z_pI 0 (z_mk L Dh S R nx sl) (some a) 4 0 x = some (z_mk L Dh (z_ups S a 0 x) R nx sl) := m_pI ((y_shp h.1).trans h.2.1) rfl (by decide) (Or.inl rfl)
theorem y_g1 (h : y_Ob Dh R a) : z_gI (z_mk L Dh S R nx sl) (some a) 4 1 = some (S a 1) := m_gI ((y_shp h.1).trans h.2.1) rfl (by decide)
theorem y_p1 (h : y_Ob Dh R a) (x : Int32) : z_pI 0 (z_mk L Dh S R nx sl) (some a) 4 1 x = some (z_mk L Dh (z_ups S a 1 x) R nx sl) := m_pI ((y_shp h.1).trans h.2.1) rfl (by decide) (Or.inl rfl)
theorem y_g2 (h : y_Ob Dh R a) : z_gI (z_mk L Dh S R nx sl) (some a) 4 2 = some (S a 2) := m_gI ((y_shp h.1).trans h.2.1) rfl (by decide)
theorem y_p2 (h : y_Ob Dh R a) (x : Int32) : z_pI 0 (z_mk L Dh S R nx sl) (some a) 4 2 x = some (z_mk L Dh (z_ups S a 2 x) R nx sl) := m_pI ((y_shp h.1).trans h.2.1) rfl (by decide) (Or.inl rfl)
theorem y_g3 (h : y_Ob Dh R a) : z_gI (z_mk L Dh S R nx sl) (some a) 4 3 = some (S a 3) := m_gI ((y_shp h.1).trans h.2.1) rfl (by decide)
theorem y_p3 (h : y_Ob Dh R a) (x : Int32) : z_pI 0 (z_mk L Dh S R nx sl) (some a) 4 3 x = some (z_mk L Dh (z_ups S a 3 x) R nx sl) := m_pI ((y_shp h.1).trans h.2.1) rfl (by decide) (Or.inl rfl)
theorem y_g4 (h : y_Ob Dh R a) : z_gI (z_mk L Dh S R nx sl) (some a) 4 4 = some (S a 4) := m_gI ((y_shp h.1).trans h.2.1) rfl (by decide)
theorem y_p4 (h : y_Ob Dh R a) (x : Int32) : z_pI 0 (z_mk L Dh S R nx sl) (some a) 4 4 x = some (z_mk L Dh (z_ups S a 4 x) R nx sl) := m_pI ((y_shp h.1).trans h.2.1) rfl (by decide) (Or.inl rfl)
theorem y_g5 (h : y_Ob Dh R a) : z_gI (z_mk L Dh S R nx sl) (some a) 4 5 = some (S a 5) := m_gI ((y_shp h.1).trans h.2.1) rfl (by decide)
theorem y_p5 (h : y_Ob Dh R a) (x : Int32) : z_pI 0 (z_mk L Dh S R nx sl) (some a) 4 5 x = some (z_mk L Dh (z_ups S a 5 x) R nx sl) := m_pI ((y_shp h.1).trans h.2.1) rfl (by decide) (Or.inl rfl)
theorem y_g6 (h : y_Ob Dh R a) : z_gI (z_mk L Dh S R nx sl) (some a) 4 6 = some (S a 6) := m_gI ((y_shp h.1).trans h.2.1) rfl (by decide)
theorem y_p6 (h : y_Ob Dh R a) (x : Int32) : z_pI 0 (z_mk L Dh S R nx sl) (some a) 4 6 x = some (z_mk L Dh (z_ups S a 6 x) R nx sl) := m_pI ((y_shp h.1).trans h.2.1) rfl (by decide) (Or.inl rfl)
theorem y_g7 (h : y_Ob Dh R a) : z_gI (z_mk L Dh S R nx sl) (some a) 4 7 = some (S a 7) := m_gI ((y_shp h.1).trans h.2.1) rfl (by decide)
theorem y_p7 (h : y_Ob Dh R a) (x : Int32) : z_pI 0 (z_mk L Dh S R nx sl) (some a) 4 7 x = some (z_mk L Dh (z_ups S a 7 x) R nx sl) := m_pI ((y_shp h.1).trans h.2.1) rfl (by decide) (Or.inl rfl)
theorem y_g8 (h : y_Ob Dh R a) : z_gR (z_mk L Dh S R nx sl) (some a) 4 8 = some (some (a + 1)) := by rw [m_gR ((y_shp h.1).trans h.2.1) rfl, h.2.2.2.2.2.2.2.1]
theorem y_l1 (h : y_Ob Dh R a) {i : Nat} (hi : i < 10) : z_ldI (z_mk L Dh S R nx sl) (some (a + 1)) (nI i) = some (S (a + 1) i) := by rw [m_ldI ((y_shp (by have := h.1; omega)).trans h.2.2.1) (Or.inl rfl) (z_in_nI hi (by decide)), z_cl (by omega)]
theorem y_s1 (h : y_Ob Dh R a) {i : Nat} (hi : i < 10) (x : Int32) : z_stI (z_mk L Dh S R nx sl) (some (a + 1)) (nI i) x = some (z_mk L Dh (z_ups S (a + 1) i x) R nx sl) := by rw [m_stI ((y_shp (by have := h.1; omega)).trans h.2.2.1) (z_in_nI hi (by decide)), z_cl (by omega)]
theorem y_g9 (h : y_Ob Dh R a) : z_gR (z_mk L Dh S R nx sl) (some a) 4 9 = some (some (a + 2)) := by rw [m_gR ((y_shp h.1).trans h.2.1) rfl, h.2.2.2.2.2.2.2.2.1]
theorem y_l2 (h : y_Ob Dh R a) {i : Nat} (hi : i < 10) : z_ldI (z_mk L Dh S R nx sl) (some (a + 2)) (nI i) = some (S (a + 2) i) := by rw [m_ldI ((y_shp (by have := h.1; omega)).trans h.2.2.2.1) (Or.inl rfl) (z_in_nI hi (by decide)), z_cl (by omega)]
theorem y_s2 (h : y_Ob Dh R a) {i : Nat} (hi : i < 10) (x : Int32) : z_stI (z_mk L Dh S R nx sl) (some (a + 2)) (nI i) x = some (z_mk L Dh (z_ups S (a + 2) i x) R nx sl) := by rw [m_stI ((y_shp (by have := h.1; omega)).trans h.2.2.2.1) (z_in_nI hi (by decide)), z_cl (by omega)]
theorem y_g10 (h : y_Ob Dh R a) : z_gR (z_mk L Dh S R nx sl) (some a) 4 10 = some (some (a + 3)) := by rw [m_gR ((y_shp h.1).trans h.2.1) rfl, h.2.2.2.2.2.2.2.2.2.1]
theorem y_l3 (h : y_Ob Dh R a) {i : Nat} (hi : i < 10) : z_ldI (z_mk L Dh S R nx sl) (some (a + 3)) (nI i) = some (S (a + 3) i) := by rw [m_ldI ((y_shp (by have := h.1; omega)).trans h.2.2.2.2.1) (Or.inl rfl) (z_in_nI hi (by decide)), z_cl (by omega)]
theorem y_s3 (h : y_Ob Dh R a) {i : Nat} (hi : i < 10) (x : Int32) : z_stI (z_mk L Dh S R nx sl) (some (a + 3)) (nI i) x = some (z_mk L Dh (z_ups S (a + 3) i x) R nx sl) := by rw [m_stI ((y_shp (by have := h.1; omega)).trans h.2.2.2.2.1) (z_in_nI hi (by decide)), z_cl (by omega)]
theorem y_g11 (h : y_Ob Dh R a) : z_gR (z_mk L Dh S R nx sl) (some a) 4 11 = some (some (a + 4)) := by rw [m_gR ((y_shp h.1).trans h.2.1) rfl, h.2.2.2.2.2.2.2.2.2.2.1]
theorem y_l4 (h : y_Ob Dh R a) {i : Nat} (hi : i < 10) : z_ldI (z_mk L Dh S R nx sl) (some (a + 4)) (nI i) = some (S (a + 4) i) := by rw [m_ldI ((y_shp (by have := h.1; omega)).trans h.2.2.2.2.2.1) (Or.inl rfl) (z_in_nI hi (by decide)), z_cl (by omega)]
theorem y_s4 (h : y_Ob Dh R a) {i : Nat} (hi : i < 10) (x : Int32) : z_stI (z_mk L Dh S R nx sl) (some (a + 4)) (nI i) x = some (z_mk L Dh (z_ups S (a + 4) i x) R nx sl) := by rw [m_stI ((y_shp (by have := h.1; omega)).trans h.2.2.2.2.2.1) (z_in_nI hi (by decide)), z_cl (by omega)]
theorem y_g12 (h : y_Ob Dh R a) : z_gR (z_mk L Dh S R nx sl) (some a) 4 12 = some (some (a + 5)) := by rw [m_gR ((y_shp h.1).trans h.2.1) rfl, h.2.2.2.2.2.2.2.2.2.2.2]
theorem y_l5 (h : y_Ob Dh R a) {i : Nat} (hi : i < 601) : z_ldI (z_mk L Dh S R nx sl) (some (a + 5)) (nI i) = some (S (a + 5) i) := by rw [m_ldI ((y_shp (by have := h.1; omega)).trans h.2.2.2.2.2.2.1) (Or.inl rfl) (z_in_nI hi (by decide)), z_cl (by omega)]
theorem y_s5 (h : y_Ob Dh R a) {i : Nat} (hi : i < 601) (x : Int32) : z_stI (z_mk L Dh S R nx sl) (some (a + 5)) (nI i) x = some (z_mk L Dh (z_ups S (a + 5) i x) R nx sl) := by rw [m_stI ((y_shp (by have := h.1; omega)).trans h.2.2.2.2.2.2.1) (z_in_nI hi (by decide)), z_cl (by omega)]
theorem y_n5 (h : y_Ob Dh R a) : z_len (z_mk L Dh S R nx sl) (some (a + 5)) = some 601 := by rw [m_len ((y_shp (by have := h.1; omega)).trans h.2.2.2.2.2.2.1) (by decide)]; rfl
/-- cells of b from f to e are x -/
def y_fil (S : Nat → Nat → Int32) (b f e : Nat) (x : Int32) : Nat → Nat → Int32 := fun q => if q = b then (fun t => if f ≤ t ∧ t < e then x else S b t) else S q
theorem y_fil_0 {b f e : Nat} {x : Int32} (h : e ≤ f) : y_fil S b f e x = S := by
  funext q t
  unfold y_fil
  by_cases c : q = b
  · rw [if_pos c, c]
    show (if f ≤ t ∧ t < e then x else S b t) = S b t
    rw [if_neg (by omega)]
  · rw [if_neg c]
theorem y_fil_s {b f i : Nat} {x : Int32} (h : f ≤ i) : z_ups (y_fil S b f i x) b i x = y_fil S b f (i + 1) x := by
  funext q t
  rw [z_upsE]
  unfold y_fil
  by_cases c : q = b
  · simp only [c, z_iT]
    by_cases d : t = i
    · rw [if_pos d, if_pos (by omega)]
    · rw [if_neg d]
      by_cases e : f ≤ t ∧ t < i
      · rw [if_pos e, if_pos (by omega)]
      · rw [if_neg e, if_neg (by omega)]
  · simp only [c, z_iF]
theorem y_fil_ne {b f e q : Nat} {x : Int32} (h : q ≠ b) : y_fil S b f e x q = S q := by unfold y_fil; rw [if_neg h]
theorem y_fil_b {b f e t : Nat} {x : Int32} : y_fil S b f e x b t = if f ≤ t ∧ t < e then x else S b t := by unfold y_fil; rw [if_pos rfl]
theorem M32_14 (h : y_Ob Dh R a) {f e : Nat} {x : Int32} (he : e ≤ 601) (hfe : f ≤ e) : ∀ (j i : Nat), i + j = e → f ≤ i → L32_14 (some a) (nI f) x (nI e) (nI i) (z_mk L Dh (y_fil S (a + 5) f i x) R nx sl) = some (nI e, z_mk L Dh (y_fil S (a + 5) f e x) R nx sl) := by
  intro j
  induction j with
  | zero =>
    intro i hi hf
    have q : i = e := by omega
    subst q
    rw [E32_14, if_pos (Int32.le_refl _), M229]
    simp only [z_bs]
    by_cases c : nI f < nI i
    · rw [if_pos c]
    · rw [if_neg c]
      have : f = i := by
        have := z_le.mp (Int32.not_lt.mp c)
        rw [z_nI (by omega), z_nI (by omega)] at this
        omega
      rw [this]
  | succ j ih =>
    intro i hi hf
    have ih := ih (i + 1) (by omega) (by omega)
    rw [E32_14, if_neg (nI_ge (by omega) (by omega))]
    simp only [y_g12 h, z_bs, y_s5 h (show i < 601 by omega), nI_1, y_fil_s hf]
    exact ih
/-- the way is filled up to a tenth -/
theorem M32 (h : y_Ob Dh R a) {f u : Nat} {x : Int32} (hu : u < 2147483648) (hf : f ≤ 601) : z_cI 2 32 [.inr (.inr (some a)), .inl (nI f), .inl (nI u), .inl x] (z_mk L Dh S R nx sl) = some (nI (max f (min u 601)), z_mk L Dh (y_fil S (a + 5) f (min u 601) x) R nx sl) := by
  rw [E32]
  simp only [y_g12 h, y_n5 h, z_bs, M230]
  have e : (if (601 : Int32) < nI u then (601 : Int32) else nI u) = nI (min u 601) := by
    by_cases c : (601 : Int32) < nI u
    · rw [if_pos c]
      have := z_lt.mp c
      rw [z_nI hu] at this
      have e6 : (601 : Int32).toInt = 601 := rfl
      rw [show min u 601 = 601 by omega]
      rfl
    · rw [if_neg c]
      have := z_le.mp (Int32.not_lt.mp c)
      rw [z_nI hu] at this
      have e6 : (601 : Int32).toInt = 601 := rfl
      rw [show min u 601 = u by omega]
  rw [e]
  by_cases c : f ≤ min u 601
  · have := M32_14 (L := L) (S := S) (nx := nx) (sl := sl) h (f := f) (e := min u 601) (x := x) (by omega) c (min u 601 - f) f (by omega) (Nat.le_refl _)
    rw [y_fil_0 (Nat.le_refl _)] at this
    rw [this, show max f (min u 601) = min u 601 by omega]
  · rw [E32_14, if_pos (nI_le (by omega) (by omega)), M229]
    simp only [z_bs]
    rw [if_neg (nI_nlt (by omega) (by omega)), y_fil_0 (by omega), show max f (min u 601) = f by omega]
/-- only the way and its last step are written -/
def y_wf (a : Nat) (S S' : Nat → Nat → Int32) : Prop := (∀ b, b ≠ a → b ≠ a + 5 → S' b = S b) ∧ ∀ k, k ≠ 7 → S' a k = S a k
theorem y_wf_id : y_wf a S S := ⟨fun _ _ _ => rfl, fun _ _ => rfl⟩
theorem y_wf_tr {S1 S2 : Nat → Nat → Int32} (h1 : y_wf a S S1) (h2 : y_wf a S1 S2) : y_wf a S S2 := ⟨fun b x y => (h2.1 b x y).trans (h1.1 b x y), fun k hk => (h2.2 k hk).trans (h1.2 k hk)⟩
theorem y_wf_fil {f e : Nat} {x : Int32} : y_wf a S (y_fil S (a + 5) f e x) := ⟨fun b _ h => y_fil_ne h, fun k _ => by rw [y_fil_ne (by omega)]⟩
theorem y_wf_7 {x : Int32} : y_wf a S (z_ups S a 7 x) := ⟨fun b h _ => z_ups_ne h, fun k hk => by rw [z_upsE, if_pos rfl, if_neg hk]⟩
/-- the legs stand in the mover's rows -/
def y_lgC (a : Nat) (S : Nat → Nat → Int32) (lg : List y_Lg) : Prop := lg.length ≤ 10 ∧ S a 5 = nI lg.length ∧ ∀ k (hk : k < lg.length), S (a + 1) k = nI (lg[k]).1 ∧ S (a + 2) k = nI (lg[k]).2.1 ∧ S (a + 3) k = nI (lg[k]).2.2.1 ∧ S (a + 4) k = nI (lg[k]).2.2.2
theorem y_lgC_wf {S' : Nat → Nat → Int32} {lg : List y_Lg} (h : y_lgC a S lg) (w : y_wf a S S') : y_lgC a S' lg := by
  refine ⟨h.1, (w.2 5 (by decide)).trans h.2.1, fun k hk => ?_⟩
  rw [w.1 (a + 1) (by omega) (by omega), w.1 (a + 2) (by omega) (by omega), w.1 (a + 3) (by omega) (by omega), w.1 (a + 4) (by omega) (by omega)]
  exact h.2.2 k hk
theorem y_nIadd {x y : Nat} : nI x + nI y = nI (x + y) := nI_add x y
/-- the steps of one leg -/
theorem M31_27 (hO : y_Ob Dh R a) {lg : List y_Lg} {P : Nat → Nat} {k c τ : Nat} {g : y_Lg} {r : List y_Lg} (hk : k < lg.length) (hg : lg[k] = g) (hc : c < 400) (hok : y_gok c g) (hτ : τ ≤ 100000) {T : Nat → Nat → Int32} (hD : I_dir T) (hP1 : ∀ t, y_wk (g :: r) c (t - τ) = y_wk (g :: r) c (t - τ)) :
  ∀ (j i F : Nat) (S : Nat → Nat → Int32), i + j = g.2.1 → y_wf a T S → y_lgC a S lg → F ≤ τ + i * g.2.2.1 → (0 < i → F = τ + i * g.2.2.1) → (∀ t, t < min F 601 → S (a + 5) t = nI (P t)) → (∀ t, F ≤ t → P t = y_wk (g :: r) c (t - τ)) → (0 < i → S a 7 = nI F) →
  ∃ S' F', L31_27 (some a) (nI (y_al c g.1 i)) (nI (min F 601)) (nI (τ + i * g.2.2.1)) (nI k) (nI i) (z_mk L Dh S R nx sl) = L31_15 (some a) (nI (y_al c g.1 g.2.1)) (nI (min F' 601)) (nI (τ + g.2.1 * g.2.2.1 + g.2.2.2)) (nI (k + 1)) (z_mk L Dh S' R nx sl) ∧ y_wf a T S' ∧ F' = τ + g.2.1 * g.2.2.1 ∧ (∀ t, t < min F' 601 → S' (a + 5) t = nI (P t)) ∧ (∀ t, F' ≤ t → P t = y_wk (g :: r) c (t - τ)) ∧ S' a 7 = nI F' := by
  obtain ⟨h0, h1, h2, h3, h4, h5, h6⟩ := hok
  intro j
  induction j with
  | zero =>
    intro i F S hi hw hl hF hFi hp hq h7
    have e : i = g.2.1 := by omega
    have l := hl.2.2 k hk
    rw [hg] at l
    refine ⟨S, F, ?_, hw, by rw [← e]; exact hFi (by omega), hp, hq, h7 (by omega)⟩
    rw [E31_27]
    simp only [y_g9 hO, y_g11 hO, z_bs, y_l2 hO (show k < 10 by have := hl.1; omega), y_l4 hO (show k < 10 by have := hl.1; omega), l.2.1, l.2.2.2, e, Int32.le_refl, z_iT, nI_1, y_nIadd]
  | succ j ih =>
    intro i F S hi hw hl hF hFi hp hq h7
    have l := hl.2.2 k hk
    rw [hg] at l
    have k10 : k < 10 := by have := hl.1; omega
    have m1 : (i + 1) * g.2.2.1 = i * g.2.2.1 + g.2.2.1 := Nat.succ_mul i _
    have m2 : i * g.2.2.1 ≤ 19 * 20 := Nat.mul_le_mul (by omega) h4
    have hD' : I_dir S := I_dir_fr hD ⟨hw.1 1 (by have := hO.1; omega) (by have := hO.1; omega), hw.1 2 (by have := hO.1; omega) (by have := hO.1; omega)⟩
    have hD2 : ∀ f e x, I_dir (y_fil S (a + 5) f e x) := fun f e x => I_dir_fr hD' ⟨y_fil_ne (by have := hO.1; omega), y_fil_ne (by have := hO.1; omega)⟩
    have o0 : y_onP c g.1 i := y_on_le hc h0 h6 (by omega)
    have o1 : y_onP c g.1 (i + 1) := y_on_le hc h0 h6 (by omega)
    have hmx : max (min F 601) (min (τ + i * g.2.2.1 + g.2.2.1) 601) = min (τ + (i + 1) * g.2.2.1) 601 := by omega
    let S2 := z_ups (y_fil S (a + 5) (min F 601) (min (τ + i * g.2.2.1 + g.2.2.1) 601) (nI (y_al c g.1 i))) a 7 (nI (τ + i * g.2.2.1 + g.2.2.1))
    have w2 : y_wf a S S2 := y_wf_tr y_wf_fil y_wf_7
    have s5 : ∀ t, S2 (a + 5) t = if min F 601 ≤ t ∧ t < min (τ + i * g.2.2.1 + g.2.2.1) 601 then nI (y_al c g.1 i) else S (a + 5) t := fun t => by
      show z_ups _ a 7 _ (a + 5) t = _
      rw [z_ups_ne (by omega), y_fil_b]
    obtain ⟨S', F', e1, e2, e3, e4, e5, e6⟩ := ih (i + 1) (τ + (i + 1) * g.2.2.1) S2 (by omega) (y_wf_tr hw w2) (y_lgC_wf hl w2) (Nat.le_refl _) (fun _ => rfl) (fun t ht => by
      rw [s5 t]
      by_cases q : min F 601 ≤ t ∧ t < min (τ + i * g.2.2.1 + g.2.2.1) 601
      · rw [if_pos q, hq t (by omega)]
        unfold y_wk
        have ht2 : (t - τ) / g.2.2.1 = i := by
          apply Nat.div_eq_of_lt_le
          · by_cases i0 : i = 0
            · subst i0; rw [Nat.zero_mul]; omega
            · have := hFi (by omega); omega
          · rw [m1]; omega
        have lt : t - τ < g.2.1 * g.2.2.1 := by
          have : (i + 1) * g.2.2.1 ≤ g.2.1 * g.2.2.1 := Nat.mul_le_mul_right _ (by omega)
          omega
        rw [if_pos lt, ht2]
      · rw [if_neg q]
        exact hp t (by omega)) (fun t ht => hq t (by omega)) (fun _ => by
      show z_ups _ a 7 _ a 7 = _
      rw [z_upsE, if_pos rfl, if_pos rfl, m1, Nat.add_assoc])
    refine ⟨S', F', ?_, e2, e3, e4, e5, e6⟩
    rw [← e1, E31_27]
    simp only [y_g9 hO, y_g10 hO, y_g8 hO, z_bs, y_l2 hO k10, y_l3 hO k10, l.2.1, l.2.2.1, y_ob hO, y_nIadd]
    rw [if_neg (nI_ge (by omega) (by omega)), M32 hO (by omega) (by omega)]
    simp only [z_bs, y_g8 hO, y_l1 hO k10]
    rw [y_fil_ne (show a + 1 ≠ a + 5 by omega), l.1, M33 (hD2 _ _ _) h0]
    simp only [z_bs, y_p7 hO, y_cs_step hc h0 o0 o1, nI_1]
    rw [hmx]
    show L31_27 _ _ _ (nI (τ + i * g.2.2.1 + g.2.2.1)) _ _ _ = L31_27 _ _ _ (nI (τ + (i + 1) * g.2.2.1)) _ _ _
    rw [m1, ← Nat.add_assoc]
theorem y_drop_cons {α : Type} {l : List α} {k : Nat} {x : α} {r : List α} (h : l.drop k = x :: r) : ∃ hk : k < l.length, l[k] = x ∧ l.drop (k + 1) = r := by
  have hk : k < l.length := by
    rcases Nat.lt_or_ge k l.length with q | q
    · exact q
    · rw [List.drop_eq_nil_of_le q] at h; cases h
  refine ⟨hk, ?_, ?_⟩
  · rw [List.drop_eq_getElem_cons hk] at h
    exact (List.cons.inj h).1
  · rw [List.drop_eq_getElem_cons hk] at h
    exact (List.cons.inj h).2
/-- all legs -/
theorem M31_15 (hO : y_Ob Dh R a) {lg : List y_Lg} {P : Nat → Nat} {T : Nat → Nat → Int32} (hD : I_dir T) :
  ∀ (r : List y_Lg) (k c τ F : Nat) (S : Nat → Nat → Int32), lg.drop k = r → k ≤ lg.length → c < 400 → y_okl c r → τ ≤ 600 + 479 * k → F ≤ τ → y_wf a T S → y_lgC a S lg → (∀ t, t < min F 601 → S (a + 5) t = nI (P t)) → (∀ t, F ≤ t → P t = y_wk r c (t - τ)) → (r = [] → S a 7 = nI F) →
  ∃ S' F', L31_15 (some a) (nI c) (nI (min F 601)) (nI τ) (nI k) (z_mk L Dh S R nx sl) = some (z_mk L Dh S' R nx sl) ∧ y_wf a T S' ∧ F' ≤ 10000 ∧ (∀ t, t < 601 → S' (a + 5) t = nI (P t)) ∧ (∀ t, F' ≤ t → P t = y_end c r) ∧ S' a 7 = nI F' ∧ (r = [] → F' = F) := by
  intro r
  induction r with
  | nil =>
    intro k c τ F S hr hkl hc hok hτ hF hw hl hp hq h7
    have hk : lg.length ≤ k := List.drop_eq_nil_iff.mp hr
    have h10 := hl.1
    refine ⟨y_fil S (a + 5) (min F 601) 601 (nI c), F, ?_, y_wf_tr hw y_wf_fil, by omega, fun t ht => ?_, fun t ht => hq t ht, ?_⟩
    · rw [E31_15]
      simp only [y_g5 hO, z_bs, hl.2.1]
      rw [if_pos (nI_le hk (by omega))]
      simp only [y_g12 hO, y_n5 hO, y_ob hO, z_bs]
      have := M32 (L := L) (S := S) (nx := nx) (sl := sl) hO (f := min F 601) (u := 601) (x := nI c) (by omega) (by omega)
      have this : z_cI 2 32 [.inr (.inr (some a)), .inl (nI (min F 601)), .inl 601, .inl (nI c)] (z_mk L Dh S R nx sl) = _ := this
      rw [this]
      simp only [z_bs]
      rfl
    · rw [y_fil_b]
      by_cases q : min F 601 ≤ t ∧ t < 601
      · rw [if_pos q, hq t (by omega)]; rfl
      · rw [if_neg q]; exact hp t (by omega)
    · rw [y_fil_ne (by omega)]; exact ⟨h7 rfl, fun _ => rfl⟩
  | cons g r ih =>
    intro k c τ F S hr hkl hc hok hτ hF hw hl hp hq h7
    obtain ⟨hk, hg, hd⟩ := y_drop_cons hr
    have h10 := hl.1
    have hgk := hok.1
    obtain ⟨g0, g1, g2, g3, g4, g5, g6⟩ := hok.1
    have m2 : g.2.1 * g.2.2.1 ≤ 19 * 20 := Nat.mul_le_mul g2 g4
    obtain ⟨S1, F1, e1, e2, e3, e4, e5, e6⟩ := M31_27 (L := L) (nx := nx) (sl := sl) hO (P := P) (r := r) hk hg hc hgk (by omega) hD (fun _ => rfl) g.2.1 0 F S (by omega) hw hl (by omega) (fun q => by omega) hp hq (fun q => by omega)
    have hl1 : y_lgC a S1 lg := by
      have : y_lgC a T lg := by
        refine ⟨hl.1, (hw.2 5 (by decide)).symm.trans hl.2.1, fun k hk => ?_⟩
        rw [← hw.1 (a + 1) (by omega) (by omega), ← hw.1 (a + 2) (by omega) (by omega), ← hw.1 (a + 3) (by omega) (by omega), ← hw.1 (a + 4) (by omega) (by omega)]
        exact hl.2.2 k hk
      exact y_lgC_wf this e2
    obtain ⟨S', F', f1, f2, f3, f4, f5, f6, -⟩ := ih (k + 1) (y_al c g.1 g.2.1) (τ + g.2.1 * g.2.2.1 + g.2.2.2) F1 S1 hd (by omega) (y_al_lt g6) hok.2 (by omega) (by omega) e2 hl1 e4 (fun t ht => by
      rw [e5 t ht, y_wk_c, if_neg (by omega)]
      by_cases q : t - τ - g.2.1 * g.2.2.1 < g.2.2.2
      · rw [if_pos q, show t - (τ + g.2.1 * g.2.2.1 + g.2.2.2) = 0 by omega, y_wk_0 r hok.2]
      · rw [if_neg q, show t - τ - g.2.1 * g.2.2.1 - g.2.2.2 = t - (τ + g.2.1 * g.2.2.1 + g.2.2.2) by omega]) (fun _ => e6)
    refine ⟨S', F', ?_, f2, f3, f4, f5, f6, fun q => by cases q⟩
    rw [E31_15]
    simp only [y_g5 hO, z_bs, hl.2.1]
    rw [if_neg (nI_ge hk (by omega))]
    rw [y_al_0, Nat.zero_mul, Nat.add_zero, f1] at e1
    exact e1
/-- the whole way -/
theorem M31 (hO : y_Ob Dh R a) {lg : List y_Lg} {c τ : Nat} (hD : I_dir S) (hl : y_lgC a S lg) (hc : c < 400) (hok : y_okl c lg) (hτ : τ ≤ 600) (h2 : S a 2 = nI c) (h3 : S a 3 = nI τ) (h7 : lg = [] → S a 7 = 0) :
  ∃ S' F', z_cV 3 31 [.inr (.inr (some a))] (z_mk L Dh S R nx sl) = some (z_mk L Dh S' R nx sl) ∧ y_wf a S S' ∧ F' ≤ 10000 ∧ (∀ t, t < 601 → S' (a + 5) t = nI (y_wk lg c (t - τ))) ∧ (∀ t, F' ≤ t → y_wk lg c (t - τ) = y_end c lg) ∧ S' a 7 = nI F' ∧ (lg = [] → F' = 0) := by
  obtain ⟨S', F', e1, e2, e3, e4, e5, e6⟩ := M31_15 (L := L) (nx := nx) (sl := sl) hO (lg := lg) (P := fun t => y_wk lg c (t - τ)) hD lg 0 c τ 0 S rfl (by omega) hc hok (by omega) (by omega) y_wf_id hl (fun t ht => by omega) (fun t _ => rfl) h7
  refine ⟨S', F', ?_, e2, e3, e4, e5, e6⟩
  rw [E31]
  simp only [y_g2 hO, y_g3 hO, z_bs, h2, h3]
  exact e1
end ZSE
