section ZSK
variable {L : Nat} {Dh : Nat → z_Sh} {S : Nat → Nat → Int32} {R : Nat → Nat → Option Nat} {nx sl : Nat}
variable {ms : List y_Mv} {ad : Nat → Nat}
/-! things that are made -/
def z_sa {α : Type} (f : Nat → α) (a : Nat) (x : α) : Nat → α := fun b => if b = a then x else f b
theorem z_sa_s {α : Type} {f : Nat → α} {a : Nat} {x : α} : z_sa f a x a = x := by unfold z_sa; rw [if_pos rfl]
theorem z_sa_ne {α : Type} {f : Nat → α} {a b : Nat} {x : α} (h : b ≠ a) : z_sa f a x b = f b := by unfold z_sa; rw [if_neg h]
theorem z_shp_sa {a b : Nat} {x : z_Sh} (h : b ≠ a) : z_shp L (z_sa Dh a x) b = z_shp L Dh b := by
  unfold z_shp
  rw [z_sa_ne h]
theorem z_shp_sa_s {a : Nat} {x : z_Sh} (h : 87 ≤ a) : z_shp L (z_sa Dh a x) a = x := by rw [y_shp h, z_sa_s]
theorem m_new {ci n : Nat} {ks : List Nat} (h87 : 87 ≤ nx) (hf : z_fN.getD ci [] = ks) (hk : ks.map z_dv = z_flds ks 0 (fun _ => 0) (fun _ => none)) (hn : ks.length = n) : z_new ci (z_mk L Dh S R nx sl) = z_mk L (z_sa Dh nx (.inr (.inr (ci, ks)))) (z_sa S nx fun _ => 0) (z_sa R nx fun _ => none) (nx + 1) (sl + n) := by
  unfold z_new
  rw [hf, hn]
  unfold z_mk
  congr 2
  funext b
  unfold z_upd
  by_cases c : b = nx
  · rw [if_pos c, c, z_shp_sa_s h87, z_sa_s, z_sa_s, hk]
    rfl
  · rw [if_neg c, z_shp_sa c, z_sa_ne c, z_sa_ne c]
theorem m_nwI {t n : Nat} (h87 : 87 ≤ nx) : z_nwI t n (z_mk L Dh S R nx sl) = z_mk L (z_sa Dh nx (.inl (t, n))) (z_sa S nx fun _ => 0) R (nx + 1) (sl + n) := by
  unfold z_nwI
  unfold z_mk
  congr 2
  funext b
  unfold z_upd
  by_cases c : b = nx
  · rw [if_pos c, c, z_shp_sa_s h87, z_sa_s]
    rfl
  · rw [if_neg c, z_shp_sa c, z_sa_ne c]
theorem z_mk1 : (z_mk L Dh S R nx sl).1 = nx := rfl
/-- both answer alike, and Q holds behind them; the class may make things -/
def z_R3 (c m : z_H → Option (Int32 × z_H)) (L : Nat) (Dh : Nat → z_Sh) (S : Nat → Nat → Int32) (R : Nat → Nat → Option Nat) (nx sl : Nat) (Q : (Nat → z_Sh) → (Nat → Nat → Int32) → (Nat → Nat → Option Nat) → Nat → Nat → Prop) : Prop :=
  ∃ (r : Int32) (D' : Nat → z_Sh) (S1 S2 : Nat → Nat → Int32) (R' : Nat → Nat → Option Nat) (nx' sl' : Nat), c (z_mk L Dh S R nx sl) = some (r, z_mk L D' S1 R' nx' sl') ∧ m (z_mk L D' S1 R' nx' sl') = some (r, z_mk L D' S2 R' nx' sl') ∧ Q D' S2 R' nx' sl'
theorem z_R3_2 {c m : z_H → Option (Int32 × z_H)} {A K : Nat → Bool} {P : (Nat → Nat → Int32) → Prop} {Q : (Nat → z_Sh) → (Nat → Nat → Int32) → (Nat → Nat → Option Nat) → Nat → Nat → Prop} (h : z_R2 c m L Dh S R nx sl A K P) (hq : ∀ S', z_fr A K S S' → P S' → Q Dh S' R nx sl) : z_R3 c m L Dh S R nx sl Q := by
  obtain ⟨r, S1, S2, h1, h2, h3, h4⟩ := h
  exact ⟨r, Dh, S1, S2, R, nx, sl, h1, h2, hq S2 h3 h4⟩
theorem z_R3_no {c m : z_H → Option (Int32 × z_H)} {Q : (Nat → z_Sh) → (Nat → Nat → Int32) → (Nat → Nat → Option Nat) → Nat → Nat → Prop} {k : Int32} (_ : z_code k) (_ : I_ref S) (hc : c (z_mk L Dh S R nx sl) = some (k, z_mk L Dh (z_no 7 S k) R nx sl)) (hm : m (z_mk L Dh (z_no 7 S k) R nx sl) = some (k, z_mk L Dh (z_no 86 (z_no 7 S k) k) R nx sl)) (hP : Q Dh (z_no 86 (z_no 7 S k) k) R nx sl) : z_R3 c m L Dh S R nx sl Q := ⟨k, Dh, _, _, R, nx, sl, hc, hm, hP⟩
theorem z_no_ne {a b : Nat} {c : Int32} (h : b ≠ a) : z_no a S c b = S b := by unfold z_no; exact z_ups_ne h
theorem y_Ob_fr {D' : Nat → z_Sh} {R' : Nat → Nat → Option Nat} {a : Nat} (h : y_Ob Dh R a) (hD : ∀ b, a ≤ b → b ≤ a + 5 → D' b = Dh b) (hR : R' a = R a) : y_Ob D' R' a := by
  unfold y_Ob
  rw [hR, hD a (by omega) (by omega), hD (a + 1) (by omega) (by omega), hD (a + 2) (by omega) (by omega), hD (a + 3) (by omega) (by omega), hD (a + 4) (by omega) (by omega), hD (a + 5) (by omega) (by omega)]
  exact h
theorem y_cM_fr2 {D' : Nat → z_Sh} {R' : Nat → Nat → Option Nat} {S' : Nat → Nat → Int32} {a : Nat} {m : y_Mv} (h : y_cM Dh R S a m) (hD : ∀ b, a ≤ b → b ≤ a + 5 → D' b = Dh b) (hR : R' a = R a) (e : ∀ b, a ≤ b → b ≤ a + 5 → S' b = S b) : y_cM D' R' S' a m := by
  have h := y_cM_fr h e
  exact ⟨y_Ob_fr h.1 hD hR, h.2⟩
def y_mvT : z_Sh := .inr (.inr (4, [0, 0, 0, 0, 0, 0, 0, 0, 2, 2, 2, 2, 2]))
/-- the class makes a mover -/
theorem M25 (h87 : 87 ≤ nx) (hD : I_dir S) {k s c t l : Nat} (hc : c < 400) (ht : t ≤ 600) : ∃ D' S' R', z_cV 4 25 [.inr (.inr (some nx)), .inl (nI k), .inl (nI s), .inl (nI c), .inl (nI t), .inl (nI l)] (z_new 4 (z_mk L Dh S R nx sl)) = some (z_mk L D' S' R' (nx + 6) (sl + 654)) ∧ y_cM D' R' S' nx (k, s, c, t, l, []) ∧ (∀ b, b < nx → D' b = Dh b ∧ S' b = S b ∧ R' b = R b) := by
  rw [m_new (ci := 4) (n := 13) (ks := [0, 0, 0, 0, 0, 0, 0, 0, 2, 2, 2, 2, 2]) h87 rfl rfl rfl, E25]
  obtain ⟨D1, hD1⟩ : ∃ D1, D1 = z_sa Dh nx (.inr (.inr (4, [0, 0, 0, 0, 0, 0, 0, 0, 2, 2, 2, 2, 2]))) := ⟨_, rfl⟩
  obtain ⟨S1, hS1⟩ : ∃ S1, S1 = z_sa S nx (fun _ => (0 : Int32)) := ⟨_, rfl⟩
  obtain ⟨R1, hR1⟩ : ∃ R1, R1 = z_sa R nx (fun _ => (none : Option Nat)) := ⟨_, rfl⟩
  rw [← hD1, ← hS1, ← hR1]
  simp only [z_nulS (show 6 ≤ nx by omega), z_bs, z_mk1, if_true]

  rw [m_nwI (show 87 ≤ nx + 1 by omega)]
  obtain ⟨D2, hD2⟩ : ∃ D2, D2 = z_sa D1 (nx + 1) (.inl (0, 10)) := ⟨_, rfl⟩
  obtain ⟨S2, hS2⟩ : ∃ S2, S2 = z_sa S1 (nx + 1) (fun _ => (0 : Int32)) := ⟨_, rfl⟩
  obtain ⟨R2, hR2⟩ : ∃ R2, R2 = z_upR R1 nx 8 (some (nx + 1)) := ⟨_, rfl⟩
  rw [← hD2, ← hS2]
  have t2 : D2 nx = .inr (.inr (4, [0, 0, 0, 0, 0, 0, 0, 0, 2, 2, 2, 2, 2])) := by rw [hD2, z_sa_ne (by omega)]; exact (by rw [hD1, z_sa_s])
  rw [m_pR ((y_shp h87).trans t2) rfl, ← hR2]
  simp only [z_bs, z_mk1]
  rw [m_nwI (show 87 ≤ nx + 2 by omega)]
  obtain ⟨D3, hD3⟩ : ∃ D3, D3 = z_sa D2 (nx + 2) (.inl (0, 10)) := ⟨_, rfl⟩
  obtain ⟨S3, hS3⟩ : ∃ S3, S3 = z_sa S2 (nx + 2) (fun _ => (0 : Int32)) := ⟨_, rfl⟩
  obtain ⟨R3, hR3⟩ : ∃ R3, R3 = z_upR R2 nx 9 (some (nx + 2)) := ⟨_, rfl⟩
  rw [← hD3, ← hS3]
  have t3 : D3 nx = .inr (.inr (4, [0, 0, 0, 0, 0, 0, 0, 0, 2, 2, 2, 2, 2])) := by rw [hD3, z_sa_ne (by omega)]; exact t2
  rw [m_pR ((y_shp h87).trans t3) rfl, ← hR3]
  simp only [z_bs, z_mk1]
  rw [m_nwI (show 87 ≤ nx + 3 by omega)]
  obtain ⟨D4, hD4⟩ : ∃ D4, D4 = z_sa D3 (nx + 3) (.inl (0, 10)) := ⟨_, rfl⟩
  obtain ⟨S4, hS4⟩ : ∃ S4, S4 = z_sa S3 (nx + 3) (fun _ => (0 : Int32)) := ⟨_, rfl⟩
  obtain ⟨R4, hR4⟩ : ∃ R4, R4 = z_upR R3 nx 10 (some (nx + 3)) := ⟨_, rfl⟩
  rw [← hD4, ← hS4]
  have t4 : D4 nx = .inr (.inr (4, [0, 0, 0, 0, 0, 0, 0, 0, 2, 2, 2, 2, 2])) := by rw [hD4, z_sa_ne (by omega)]; exact t3
  rw [m_pR ((y_shp h87).trans t4) rfl, ← hR4]
  simp only [z_bs, z_mk1]
  rw [m_nwI (show 87 ≤ nx + 4 by omega)]
  obtain ⟨D5, hD5⟩ : ∃ D5, D5 = z_sa D4 (nx + 4) (.inl (0, 10)) := ⟨_, rfl⟩
  obtain ⟨S5, hS5⟩ : ∃ S5, S5 = z_sa S4 (nx + 4) (fun _ => (0 : Int32)) := ⟨_, rfl⟩
  obtain ⟨R5, hR5⟩ : ∃ R5, R5 = z_upR R4 nx 11 (some (nx + 4)) := ⟨_, rfl⟩
  rw [← hD5, ← hS5]
  have t5 : D5 nx = .inr (.inr (4, [0, 0, 0, 0, 0, 0, 0, 0, 2, 2, 2, 2, 2])) := by rw [hD5, z_sa_ne (by omega)]; exact t4
  rw [m_pR ((y_shp h87).trans t5) rfl, ← hR5]
  simp only [z_bs, z_mk1]
  rw [m_nwI (show 87 ≤ nx + 5 by omega)]
  obtain ⟨D6, hD6⟩ : ∃ D6, D6 = z_sa D5 (nx + 5) (.inl (0, 601)) := ⟨_, rfl⟩
  obtain ⟨S6, hS6⟩ : ∃ S6, S6 = z_sa S5 (nx + 5) (fun _ => (0 : Int32)) := ⟨_, rfl⟩
  obtain ⟨R6, hR6⟩ : ∃ R6, R6 = z_upR R5 nx 12 (some (nx + 5)) := ⟨_, rfl⟩
  rw [← hD6, ← hS6]
  have t6 : D6 nx = .inr (.inr (4, [0, 0, 0, 0, 0, 0, 0, 0, 2, 2, 2, 2, 2])) := by rw [hD6, z_sa_ne (by omega)]; exact t5
  rw [m_pR ((y_shp h87).trans t6) rfl, ← hR6]
  simp only [z_bs, z_mk1]
  rw [m_pI ((y_shp h87).trans t6) rfl (by decide) (Or.inl rfl)]
  simp only [z_bs]
  rw [m_pI ((y_shp h87).trans t6) rfl (by decide) (Or.inl rfl)]
  simp only [z_bs]
  rw [m_pI ((y_shp h87).trans t6) rfl (by decide) (Or.inl rfl)]
  simp only [z_bs]
  rw [m_pI ((y_shp h87).trans t6) rfl (by decide) (Or.inl rfl)]
  simp only [z_bs]
  rw [m_pI ((y_shp h87).trans t6) rfl (by decide) (Or.inl rfl)]
  simp only [z_bs]
  rw [m_pI ((y_shp h87).trans t6) rfl (by decide) (Or.inl rfl)]
  simp only [z_bs]
  obtain ⟨T, hT⟩ : ∃ T, T = z_ups (z_ups (z_ups (z_ups (z_ups (z_ups (S6) nx 0 (nI k)) nx 1 (nI s)) nx 2 (nI c)) nx 3 (nI t)) nx 4 (nI l)) nx 6 (nI c) := ⟨_, rfl⟩
  rw [← hT]
  have dn : ∀ b, b < nx → D6 b = Dh b := fun b hb => by rw [hD6, z_sa_ne (by omega), hD5, z_sa_ne (by omega), hD4, z_sa_ne (by omega), hD3, z_sa_ne (by omega), hD2, z_sa_ne (by omega), hD1, z_sa_ne (by omega)]
  have sn : ∀ b, b < nx → T b = S b := fun b hb => by rw [hT, z_ups_ne (by omega), z_ups_ne (by omega), z_ups_ne (by omega), z_ups_ne (by omega), z_ups_ne (by omega), z_ups_ne (by omega), hS6, z_sa_ne (by omega), hS5, z_sa_ne (by omega), hS4, z_sa_ne (by omega), hS3, z_sa_ne (by omega), hS2, z_sa_ne (by omega), hS1, z_sa_ne (by omega)]
  have rn : ∀ b, b < nx → R6 b = R b := fun b hb => by rw [hR6, z_upR_ne (by omega), hR5, z_upR_ne (by omega), hR4, z_upR_ne (by omega), hR3, z_upR_ne (by omega), hR2, z_upR_ne (by omega), hR1, z_sa_ne (by omega)]
  have s6n : ∀ q, S6 nx q = 0 := fun q => by rw [hS6, z_sa_ne (by omega), hS5, z_sa_ne (by omega), hS4, z_sa_ne (by omega), hS3, z_sa_ne (by omega), hS2, z_sa_ne (by omega), hS1, z_sa_s]
  have hO : y_Ob D6 R6 nx := by
    refine ⟨h87, t6, ?_, ?_, ?_, ?_, ?_, ?_, ?_, ?_, ?_, ?_⟩
    · rw [hD6, z_sa_ne (by omega), hD5, z_sa_ne (by omega), hD4, z_sa_ne (by omega), hD3, z_sa_ne (by omega), hD2, z_sa_s]
    · rw [hD6, z_sa_ne (by omega), hD5, z_sa_ne (by omega), hD4, z_sa_ne (by omega), hD3, z_sa_s]
    · rw [hD6, z_sa_ne (by omega), hD5, z_sa_ne (by omega), hD4, z_sa_s]
    · rw [hD6, z_sa_ne (by omega), hD5, z_sa_s]
    · rw [hD6, z_sa_s]
    · rw [hR6, hR5, hR4, hR3, hR2]; simp [z_upR, z_upr]
    · rw [hR6, hR5, hR4, hR3]; simp [z_upR, z_upr]
    · rw [hR6, hR5, hR4]; simp [z_upR, z_upr]
    · rw [hR6, hR5]; simp [z_upR, z_upr]
    · rw [hR6]; simp [z_upR, z_upr]
  have v0 : T nx 0 = nI k := by rw [hT, z_upsE, if_pos rfl, if_neg (by decide), z_upsE, if_pos rfl, if_neg (by decide), z_upsE, if_pos rfl, if_neg (by decide), z_upsE, if_pos rfl, if_neg (by decide), z_upsE, if_pos rfl, if_neg (by decide), z_upsE, if_pos rfl, if_pos rfl]
  have v1 : T nx 1 = nI s := by rw [hT, z_upsE, if_pos rfl, if_neg (by decide), z_upsE, if_pos rfl, if_neg (by decide), z_upsE, if_pos rfl, if_neg (by decide), z_upsE, if_pos rfl, if_neg (by decide), z_upsE, if_pos rfl, if_pos rfl]
  have v2 : T nx 2 = nI c := by rw [hT, z_upsE, if_pos rfl, if_neg (by decide), z_upsE, if_pos rfl, if_neg (by decide), z_upsE, if_pos rfl, if_neg (by decide), z_upsE, if_pos rfl, if_pos rfl]
  have v3 : T nx 3 = nI t := by rw [hT, z_upsE, if_pos rfl, if_neg (by decide), z_upsE, if_pos rfl, if_neg (by decide), z_upsE, if_pos rfl, if_pos rfl]
  have v4 : T nx 4 = nI l := by rw [hT, z_upsE, if_pos rfl, if_neg (by decide), z_upsE, if_pos rfl, if_pos rfl]
  have v5 : T nx 5 = 0 := by rw [hT, z_upsE, if_pos rfl, if_neg (by decide), z_upsE, if_pos rfl, if_neg (by decide), z_upsE, if_pos rfl, if_neg (by decide), z_upsE, if_pos rfl, if_neg (by decide), z_upsE, if_pos rfl, if_neg (by decide), z_upsE, if_pos rfl, if_neg (by decide), s6n]
  have v6 : T nx 6 = nI c := by rw [hT, z_upsE, if_pos rfl, if_pos rfl]
  have v7 : T nx 7 = 0 := by rw [hT, z_upsE, if_pos rfl, if_neg (by decide), z_upsE, if_pos rfl, if_neg (by decide), z_upsE, if_pos rfl, if_neg (by decide), z_upsE, if_pos rfl, if_neg (by decide), z_upsE, if_pos rfl, if_neg (by decide), z_upsE, if_pos rfl, if_neg (by decide), s6n]
  have hDT : I_dir T := I_dir_fr hD ⟨sn 1 (by omega), sn 2 (by omega)⟩
  have hlg : y_lgC nx T [] := ⟨by simp, v5, fun k hk => absurd hk (Nat.not_lt_zero _)⟩
  obtain ⟨S', F', e1, e2, e3, e4, e5, e6, e7⟩ := M31 (L := L) (nx := nx + 6) (sl := sl + 654) (S := T) hO (c := c) (τ := t) hDT hlg hc trivial ht v2 v3 (fun _ => v7)
  refine ⟨D6, S', R6, ?_, ⟨hO, (e2.2 0 (by decide)).trans v0, (e2.2 1 (by decide)).trans v1, (e2.2 2 (by decide)).trans v2, (e2.2 3 (by decide)).trans v3, (e2.2 4 (by decide)).trans v4, y_lgC_wf hlg e2, (e2.2 6 (by decide)).trans v6, e4, fun q => by rw [e6, e7 q]; rfl, F', e3, e6, e5⟩, fun b hb => ⟨dn b hb, (e2.1 b (by omega) (by omega)).trans (sn b hb), rn b hb⟩⟩
  rw [m_ob ((y_shp h87).trans t6)]
  simp only [z_bs]
  show (z_cV 3 31 [.inr (.inr (some nx))] (z_mk L D6 T R6 (nx + 6) (sl + 654))).bind _ = _
  rw [e1]
  rfl
theorem M42 {a n : Nat} (hO : y_Ob Dh R a) (hn : n < 12) (h3 : S 8 3 = nI n) : z_cI 2 42 [.inr (.inr (some 8)), .inr (.inr (some a))] (z_mk L Dh S R nx sl) = some (nI n, z_mk L Dh (y_fgo (z_ups S 8 3 (nI (n + 1))) n 12) (z_upR R 11 n (some a)) nx sl) := by
  have i1 : z_in (nI n) 12 = true := z_in_nI hn (by decide)
  have i2 : (nI n).toNatClampNeg = n := z_cl (by omega)
  have x1 : nI (n + 1) - 1 = nI n := (z_nI_sub (a := n + 1) (b := 1) (by omega))
  rw [E42]
  simp only [g_8_2, g_8_3, z_bs, h3]
  rw [m_stR (a := 11) (b := a) (t := 3) (n := 12) (cj := 4) rfl (Or.inl rfl) ((y_shp hO.1).trans hO.2.1) rfl i1, i2]
  simp only [z_bs, g_8_3, h3, p_8_3, nI_1, o_8, z_upsS, x1, M46 hn]
  rw [y_fgo_ne (by decide), z_upsE, if_pos rfl, if_pos rfl, x1]
def J_mvd (k : Nat) (Dh : Nat → z_Sh) (S : Nat → Nat → Int32) (R : Nat → Nat → Option Nat) (nx sl : Nat) (D' : Nat → z_Sh) (S' : Nat → Nat → Int32) (R' : Nat → Nat → Option Nat) (nx' sl' : Nat) : Prop :=
  I_ref S' ∧ (∃ ms ad, J_mov ms ad D' S' R' nx' ∧ J_hit ms S' ∧ J_ed (k + 1) ms S') ∧ (∀ b, b < 87 → b ≠ 8 → b ≠ 52 → decide (b ∈ [7, 12, 55, 56, 57, 58, 59, 60, 61, 86]) = false → S' b = S b) ∧ (∀ q, q ≠ 3 → S' 8 q = S 8 q) ∧ (∀ q, q ≠ 2 → q ≠ 49 → S' 52 q = S 52 q) ∧ (∀ b, 87 ≤ b → b < nx → D' b = Dh b ∧ S' b = S b ∧ R' b = R b) ∧ (∀ b, b < 87 → b ≠ 11 → R' b = R b) ∧ nx ≤ nx' ∧ nx' ≤ nx + 6 ∧ sl' ≤ sl + 700
theorem J_mvd_no {k : Nat} {c : Int32} (h_I_ref : I_ref S) (J : J_mov ms ad Dh S R nx) (H : J_hit ms S) (E : J_ed k ms S) (hc : z_code c) : J_mvd k Dh S R nx sl Dh (z_no 86 (z_no 7 S c) c) R nx sl := by
  have ne : ∀ b, b ≠ 7 → b ≠ 86 → z_no 86 (z_no 7 S c) c b = S b := fun b q1 q2 => by rw [z_no_ne q2, z_no_ne q1]
  refine ⟨z_no_ref h_I_ref hc, ⟨ms, ad, J_mov_fr (J_mov_fr J (y_ms_no (Or.inl rfl))) (y_ms_no (Or.inr rfl)), J_hit_fr H rfl, J_ed_fr E rfl rfl rfl⟩, fun b _ _ _ hm => ?_, fun q _ => by rw [ne 8 (by decide) (by decide)], fun q _ _ => by rw [ne 52 (by decide) (by decide)], fun b hb _ => ⟨rfl, ne b (by omega) (by omega), rfl⟩, fun _ _ _ => rfl, Nat.le_refl _, by omega, by omega⟩
  have hm := of_decide_eq_false hm
  exact ne b (fun q => hm (by rw [q]; decide)) (fun q => hm (by rw [q]; decide))
theorem y_k01 {α : Type} {k : Nat} (h : k ≤ 1) (a b : α) : (if nI k = (0 : Int32) then a else (if nI k = (1 : Int32) then a else b)) = a := by
  rcases (show k = 0 ∨ k = 1 by omega) with rfl | rfl
  · rw [if_pos (by rfl)]
  · rw [if_neg (by decide), if_pos (by rfl)]
theorem y_lt12 {n : Nat} (h : n ≤ 12) : (nI n < 12) = ¬ (12 ≤ n) := propext ⟨fun h q => by have a := z_lt.mp h; rw [z_nI (by omega)] at a; have e1 : (12 : Int32).toInt = 12 := rfl; omega, fun q => z_lt.mpr (by rw [z_nI (by omega)]; have e1 : (12 : Int32).toInt = 12 := rfl; omega)⟩
theorem y_eq12 {n : Nat} (h : n ≤ 12) : (nI n = 12) = (12 ≤ n) := propext ⟨fun q => by have a := z_eq.mp q; rw [z_nI (by omega)] at a; have e1 : (12 : Int32).toInt = 12 := rfl; omega, fun q => z_eq.mpr (by rw [z_nI (by omega)]; have e1 : (12 : Int32).toInt = 12 := rfl; omega)⟩
theorem z_fe0 : (false = false) = True := eq_true rfl
theorem S_mover (h87 : 87 ≤ nx) (h_I_ref : I_ref S) (hD : I_dir S) (J : J_mov ms ad Dh S R nx) (H : J_hit ms S) {kk : Nat} (hkk : kk < 100000) (E : J_ed kk ms S) (x s c t l : Int32) : z_R3 (fun h => z_cI 5 83 [.inr (.inr (some 6)), .inl x, .inl s, .inl c, .inl t, .inl l] h) (fun h => z_cI 2 141 [.inr (.inr (some 52)), .inl x, .inl s, .inl c, .inl t, .inl l] h) L Dh S R nx sl (J_mvd kk Dh S R nx sl) := by
  have h12' := J.1
  by_cases d1 : x = 0 ∨ x = 1
  · obtain ⟨k, hk, rfl⟩ : ∃ k : Nat, k ≤ 1 ∧ x = nI k := by
      rcases d1 with rfl | rfl
      · exact ⟨0, by omega, rfl⟩
      · exact ⟨1, by omega, rfl⟩
    have xk1 : ¬ nI k < 0 := nI_pos (by omega)
    have xk2 : nI k ≤ 1 := by rcases (show k = 0 ∨ k = 1 by omega) with rfl | rfl <;> decide
    by_cases c1 : c < 0
    · refine z_R3_no z_code1 h_I_ref ?_ ?_ (J_mvd_no h_I_ref J H E z_code1)
      · show z_cI 5 83 _ _ = _
        rw [E83]
        rw [y_k01 hk, E83_16]
        simp only [M122 z_code1, z_bs, g_6_1, o_8, o_6, M123, g_8_3, J.2.1, y_lt12 h12', c1, Int32.not_le.mpr c1, true_or, or_true, or_self, false_or, or_false, not_true, not_false_eq_true, Classical.not_not, z_10, z_iT, z_iF]
      · show z_cI 2 141 _ _ = _
        rw [E141]
        skip
        simp only [M131 z_code1, z_bs, o_52, M132, xk1, xk2, g_52_2, show (z_no 7 S (-1)) 52 2 = nI ms.length from J.2.2.1, y_eq12 h12', c1, Int32.not_le.mpr c1, true_or, or_true, or_self, false_or, or_false, not_true, not_false_eq_true, Classical.not_not, z_10, z_iT, z_iF]
    · skip
      by_cases c2 : 400 ≤ c
      · refine z_R3_no z_code1 h_I_ref ?_ ?_ (J_mvd_no h_I_ref J H E z_code1)
        · show z_cI 5 83 _ _ = _
          rw [E83]
          rw [y_k01 hk, E83_16]
          simp only [M122 z_code1, z_bs, g_6_1, o_8, o_6, M123, g_8_3, J.2.1, y_lt12 h12', c1, Int32.not_lt.mp c1, c2, Int32.not_lt.mpr c2, true_or, or_true, or_self, false_or, or_false, not_true, not_false_eq_true, Classical.not_not, z_10, z_iT, z_iF]
        · show z_cI 2 141 _ _ = _
          rw [E141]
          skip
          simp only [M131 z_code1, z_bs, o_52, M132, xk1, xk2, g_52_2, show (z_no 7 S (-1)) 52 2 = nI ms.length from J.2.2.1, y_eq12 h12', c1, Int32.not_lt.mp c1, c2, Int32.not_lt.mpr c2, true_or, or_true, or_self, false_or, or_false, not_true, not_false_eq_true, Classical.not_not, z_10, z_iT, z_iF]
      · skip
        by_cases c3 : s < 0
        · refine z_R3_no z_code4 h_I_ref ?_ ?_ (J_mvd_no h_I_ref J H E z_code4)
          · show z_cI 5 83 _ _ = _
            rw [E83]
            rw [y_k01 hk, E83_16]
            simp only [M122 z_code4, z_bs, g_6_1, o_8, o_6, M123, g_8_3, J.2.1, y_lt12 h12', c1, Int32.not_lt.mp c1, c2, Int32.not_le.mp c2, c3, Int32.not_le.mpr c3, true_or, or_true, or_self, false_or, or_false, not_true, not_false_eq_true, Classical.not_not, z_10, z_iT, z_iF]
          · show z_cI 2 141 _ _ = _
            rw [E141]
            skip
            simp only [M131 z_code4, z_bs, o_52, M132, xk1, xk2, g_52_2, show (z_no 7 S (-4)) 52 2 = nI ms.length from J.2.2.1, y_eq12 h12', c1, Int32.not_lt.mp c1, c2, Int32.not_le.mp c2, c3, Int32.not_le.mpr c3, true_or, or_true, or_self, false_or, or_false, not_true, not_false_eq_true, Classical.not_not, z_10, z_iT, z_iF]
        · skip
          by_cases c4 : t < 0
          · refine z_R3_no z_code4 h_I_ref ?_ ?_ (J_mvd_no h_I_ref J H E z_code4)
            · show z_cI 5 83 _ _ = _
              rw [E83]
              rw [y_k01 hk, E83_16]
              simp only [M122 z_code4, z_bs, g_6_1, o_8, o_6, M123, g_8_3, J.2.1, y_lt12 h12', c1, Int32.not_lt.mp c1, c2, Int32.not_le.mp c2, c3, Int32.not_lt.mp c3, c4, Int32.not_le.mpr c4, true_or, or_true, or_self, false_or, or_false, not_true, not_false_eq_true, Classical.not_not, z_10, z_iT, z_iF]
            · show z_cI 2 141 _ _ = _
              rw [E141]
              skip
              simp only [M131 z_code4, z_bs, o_52, M132, xk1, xk2, g_52_2, show (z_no 7 S (-4)) 52 2 = nI ms.length from J.2.2.1, y_eq12 h12', c1, Int32.not_lt.mp c1, c2, Int32.not_le.mp c2, c3, Int32.not_lt.mp c3, c4, Int32.not_le.mpr c4, true_or, or_true, or_self, false_or, or_false, not_true, not_false_eq_true, Classical.not_not, z_10, z_iT, z_iF]
          · skip
            by_cases c5 : l < 0
            · refine z_R3_no z_code4 h_I_ref ?_ ?_ (J_mvd_no h_I_ref J H E z_code4)
              · show z_cI 5 83 _ _ = _
                rw [E83]
                rw [y_k01 hk, E83_16]
                simp only [M122 z_code4, z_bs, g_6_1, o_8, o_6, M123, g_8_3, J.2.1, y_lt12 h12', c1, Int32.not_lt.mp c1, c2, Int32.not_le.mp c2, c3, Int32.not_lt.mp c3, c4, Int32.not_lt.mp c4, c5, Int32.not_le.mpr c5, true_or, or_true, or_self, false_or, or_false, not_true, not_false_eq_true, Classical.not_not, z_10, z_iT, z_iF]
              · show z_cI 2 141 _ _ = _
                rw [E141]
                skip
                simp only [M131 z_code4, z_bs, o_52, M132, xk1, xk2, g_52_2, show (z_no 7 S (-4)) 52 2 = nI ms.length from J.2.2.1, y_eq12 h12', c1, Int32.not_lt.mp c1, c2, Int32.not_le.mp c2, c3, Int32.not_lt.mp c3, c4, Int32.not_lt.mp c4, c5, Int32.not_le.mpr c5, true_or, or_true, or_self, false_or, or_false, not_true, not_false_eq_true, Classical.not_not, z_10, z_iT, z_iF]
            · skip
              by_cases c6 : 3 < s
              · refine z_R3_no z_code6 h_I_ref ?_ ?_ (J_mvd_no h_I_ref J H E z_code6)
                · show z_cI 5 83 _ _ = _
                  rw [E83]
                  rw [y_k01 hk, E83_16]
                  simp only [M122 z_code6, z_bs, g_6_1, o_8, o_6, M123, g_8_3, J.2.1, y_lt12 h12', c1, Int32.not_lt.mp c1, c2, Int32.not_le.mp c2, c3, Int32.not_lt.mp c3, c4, Int32.not_lt.mp c4, c5, Int32.not_lt.mp c5, c6, Int32.not_le.mpr c6, true_or, or_true, or_self, false_or, or_false, not_true, not_false_eq_true, Classical.not_not, z_10, z_iT, z_iF]
                · show z_cI 2 141 _ _ = _
                  rw [E141]
                  skip
                  simp only [M131 z_code6, z_bs, o_52, M132, xk1, xk2, g_52_2, show (z_no 7 S (-6)) 52 2 = nI ms.length from J.2.2.1, y_eq12 h12', c1, Int32.not_lt.mp c1, c2, Int32.not_le.mp c2, c3, Int32.not_lt.mp c3, c4, Int32.not_lt.mp c4, c5, Int32.not_lt.mp c5, c6, Int32.not_le.mpr c6, true_or, or_true, or_self, false_or, or_false, not_true, not_false_eq_true, Classical.not_not, z_10, z_iT, z_iF]
              · skip
                by_cases c7 : 600 < t
                · refine z_R3_no z_code6 h_I_ref ?_ ?_ (J_mvd_no h_I_ref J H E z_code6)
                  · show z_cI 5 83 _ _ = _
                    rw [E83]
                    rw [y_k01 hk, E83_16]
                    simp only [M122 z_code6, z_bs, g_6_1, o_8, o_6, M123, g_8_3, J.2.1, y_lt12 h12', c1, Int32.not_lt.mp c1, c2, Int32.not_le.mp c2, c3, Int32.not_lt.mp c3, c4, Int32.not_lt.mp c4, c5, Int32.not_lt.mp c5, c6, Int32.not_lt.mp c6, c7, Int32.not_le.mpr c7, true_or, or_true, or_self, false_or, or_false, not_true, not_false_eq_true, Classical.not_not, z_10, z_iT, z_iF]
                  · show z_cI 2 141 _ _ = _
                    rw [E141]
                    skip
                    simp only [M131 z_code6, z_bs, o_52, M132, xk1, xk2, g_52_2, show (z_no 7 S (-6)) 52 2 = nI ms.length from J.2.2.1, y_eq12 h12', c1, Int32.not_lt.mp c1, c2, Int32.not_le.mp c2, c3, Int32.not_lt.mp c3, c4, Int32.not_lt.mp c4, c5, Int32.not_lt.mp c5, c6, Int32.not_lt.mp c6, c7, Int32.not_le.mpr c7, true_or, or_true, or_self, false_or, or_false, not_true, not_false_eq_true, Classical.not_not, z_10, z_iT, z_iF]
                · skip
                  by_cases c8 : 9 < l
                  · refine z_R3_no z_code6 h_I_ref ?_ ?_ (J_mvd_no h_I_ref J H E z_code6)
                    · show z_cI 5 83 _ _ = _
                      rw [E83]
                      rw [y_k01 hk, E83_16]
                      simp only [M122 z_code6, z_bs, g_6_1, o_8, o_6, M123, g_8_3, J.2.1, y_lt12 h12', c1, Int32.not_lt.mp c1, c2, Int32.not_le.mp c2, c3, Int32.not_lt.mp c3, c4, Int32.not_lt.mp c4, c5, Int32.not_lt.mp c5, c6, Int32.not_lt.mp c6, c7, Int32.not_lt.mp c7, c8, Int32.not_le.mpr c8, true_or, or_true, or_self, false_or, or_false, not_true, not_false_eq_true, Classical.not_not, z_10, z_iT, z_iF]
                    · show z_cI 2 141 _ _ = _
                      rw [E141]
                      skip
                      simp only [M131 z_code6, z_bs, o_52, M132, xk1, xk2, g_52_2, show (z_no 7 S (-6)) 52 2 = nI ms.length from J.2.2.1, y_eq12 h12', c1, Int32.not_lt.mp c1, c2, Int32.not_le.mp c2, c3, Int32.not_lt.mp c3, c4, Int32.not_lt.mp c4, c5, Int32.not_lt.mp c5, c6, Int32.not_lt.mp c6, c7, Int32.not_lt.mp c7, c8, Int32.not_le.mpr c8, true_or, or_true, or_self, false_or, or_false, not_true, not_false_eq_true, Classical.not_not, z_10, z_iT, z_iF]
                  · skip
                    by_cases c9 : 12 ≤ ms.length
                    · refine z_R3_no z_code6 h_I_ref ?_ ?_ (J_mvd_no h_I_ref J H E z_code6)
                      · show z_cI 5 83 _ _ = _
                        rw [E83]
                        rw [y_k01 hk, E83_16]
                        simp only [M122 z_code6, z_bs, g_6_1, o_8, o_6, M123, g_8_3, J.2.1, y_lt12 h12', c1, Int32.not_lt.mp c1, c2, Int32.not_le.mp c2, c3, Int32.not_lt.mp c3, c4, Int32.not_lt.mp c4, c5, Int32.not_lt.mp c5, c6, Int32.not_lt.mp c6, c7, Int32.not_lt.mp c7, c8, Int32.not_lt.mp c8, c9, true_or, or_true, or_self, false_or, or_false, not_true, not_false_eq_true, Classical.not_not, z_10, z_iT, z_iF]
                      · show z_cI 2 141 _ _ = _
                        rw [E141]
                        skip
                        simp only [M131 z_code6, z_bs, o_52, M132, xk1, xk2, g_52_2, show (z_no 7 S (-6)) 52 2 = nI ms.length from J.2.2.1, y_eq12 h12', c1, Int32.not_lt.mp c1, c2, Int32.not_le.mp c2, c3, Int32.not_lt.mp c3, c4, Int32.not_lt.mp c4, c5, Int32.not_lt.mp c5, c6, Int32.not_lt.mp c6, c7, Int32.not_lt.mp c7, c8, Int32.not_lt.mp c8, c9, true_or, or_true, or_self, false_or, or_false, not_true, not_false_eq_true, Classical.not_not, z_10, z_iT, z_iF]
                    · skip
                      obtain ⟨cc, hcc, rfl⟩ := z_plc (n := 400) (by omega) c1 c2
                      obtain ⟨ss, hss, rfl⟩ := nI_of2 (n := 3) rfl c3 (Int32.not_lt.mp c6)
                      obtain ⟨tt, htt, rfl⟩ := nI_of2 (n := 600) rfl c4 (Int32.not_lt.mp c7)
                      obtain ⟨ll, hll, rfl⟩ := nI_of2 (n := 9) rfl c5 (Int32.not_lt.mp c8)
                      have hlen : ms.length < 12 := by
                        omega
                      have J83 : S 8 3 = nI ms.length := J.2.1
                      have J52 : S 52 2 = nI ms.length := J.2.2.1
                      generalize hn : ms.length = n at *
                      obtain ⟨D', S0, R0, e1, e2, e3⟩ := M25 (L := L) (sl := sl) (R := R) (Dh := Dh) h87 hD (k := k) (s := ss) (l := ll) hcc htt
                      have s03 : S0 8 3 = nI n := by rw [(e3 8 (by omega)).2.1]; exact J83
                      have e4 := M42 (L := L) (nx := nx + 6) (sl := sl + 654) e2.1 hlen s03
                      obtain ⟨S1, hS1⟩ : ∃ S1, S1 = y_fgo (z_ups S0 8 3 (nI (n + 1))) n 12 := ⟨_, rfl⟩
                      rw [← hS1] at e4
                      have s1 : ∀ b, b ≠ 12 → b ≠ 8 → S1 b = S0 b := fun b q1 q2 => by rw [hS1, y_fgo_ne q1, z_ups_ne q2]
                      have s12 : ∀ b, b ≠ 12 → b ≠ 8 → b < nx → S1 b = S b := fun b q1 q2 q3 => by rw [s1 b q1 q2, (e3 b q3).2.1]
                      have m2 : S1 52 2 = nI n := by rw [s12 52 (by decide) (by decide) (by omega)]; exact J52
                      have m49 : S1 52 49 = S 52 49 := by rw [s12 52 (by decide) (by decide) (by omega)]
                      have i1 : z_in (nI n) 12 = true := z_in_nI hlen (by decide)
                      have i2 : (nI n).toNatClampNeg = n := z_cl (by omega)
                      have x1 : nI (n + 1) - 1 = nI n := (z_nI_sub (a := n + 1) (b := 1) (by omega))
                      obtain ⟨F, hF⟩ : ∃ F, F = z_ups (z_ups (z_ups (z_ups (z_ups (z_ups (z_ups (z_ups (z_ups S1 55 n (nI k)) 56 n (nI ss)) 57 n (nI cc)) 58 n (nI tt)) 59 n (nI ll)) 60 n 0) 61 n (nI cc)) 52 2 (nI (n + 1))) 52 49 (S 52 49 + 1) := ⟨_, rfl⟩
                      have fin : ∀ b, (b < 55 ∨ 61 < b) → b ≠ 52 → F b = S1 b := fun b q1 q2 => by rw [hF, z_ups_ne q2, z_ups_ne q2, z_ups_ne (by omega), z_ups_ne (by omega), z_ups_ne (by omega), z_ups_ne (by omega), z_ups_ne (by omega), z_ups_ne (by omega), z_ups_ne (by omega)]
                      have f49 : F 52 49 = S 52 49 + 1 := by rw [hF, z_upsE, if_pos rfl, if_pos rfl]
                      have f2 : F 52 2 = nI (n + 1) := by rw [hF, z_upsE, if_pos rfl, if_neg (by decide), z_upsE, if_pos rfl, if_pos rfl]
                      have f52 : ∀ q, q ≠ 2 → q ≠ 49 → F 52 q = S 52 q := fun q q1 q2 => by rw [hF, z_upsE, if_pos rfl, if_neg q2, z_upsE, if_pos rfl, if_neg q1, z_ups_ne (by decide), z_ups_ne (by decide), z_ups_ne (by decide), z_ups_ne (by decide), z_ups_ne (by decide), z_ups_ne (by decide), z_ups_ne (by decide), s12 52 (by decide) (by decide) (by omega)]
                      have f55 : ∀ j, F 55 j = if j = n then nI k else S 55 j := fun j => by rw [hF, z_ups_ne (by decide), z_ups_ne (by decide), z_ups_ne (by decide), z_ups_ne (by decide), z_ups_ne (by decide), z_ups_ne (by decide), z_ups_ne (by decide), z_ups_ne (by decide), z_upsE, if_pos rfl,  s12 55 (by decide) (by decide) (by omega)]
                      have f56 : ∀ j, F 56 j = if j = n then nI ss else S 56 j := fun j => by rw [hF, z_ups_ne (by decide), z_ups_ne (by decide), z_ups_ne (by decide), z_ups_ne (by decide), z_ups_ne (by decide), z_ups_ne (by decide), z_ups_ne (by decide), z_upsE, if_pos rfl, z_ups_ne (by decide),  s12 56 (by decide) (by decide) (by omega)]
                      have f57 : ∀ j, F 57 j = if j = n then nI cc else S 57 j := fun j => by rw [hF, z_ups_ne (by decide), z_ups_ne (by decide), z_ups_ne (by decide), z_ups_ne (by decide), z_ups_ne (by decide), z_ups_ne (by decide), z_upsE, if_pos rfl, z_ups_ne (by decide), z_ups_ne (by decide),  s12 57 (by decide) (by decide) (by omega)]
                      have f58 : ∀ j, F 58 j = if j = n then nI tt else S 58 j := fun j => by rw [hF, z_ups_ne (by decide), z_ups_ne (by decide), z_ups_ne (by decide), z_ups_ne (by decide), z_ups_ne (by decide), z_upsE, if_pos rfl, z_ups_ne (by decide), z_ups_ne (by decide), z_ups_ne (by decide),  s12 58 (by decide) (by decide) (by omega)]
                      have f59 : ∀ j, F 59 j = if j = n then nI ll else S 59 j := fun j => by rw [hF, z_ups_ne (by decide), z_ups_ne (by decide), z_ups_ne (by decide), z_ups_ne (by decide), z_upsE, if_pos rfl, z_ups_ne (by decide), z_ups_ne (by decide), z_ups_ne (by decide), z_ups_ne (by decide),  s12 59 (by decide) (by decide) (by omega)]
                      have f60 : ∀ j, F 60 j = if j = n then 0 else S 60 j := fun j => by rw [hF, z_ups_ne (by decide), z_ups_ne (by decide), z_ups_ne (by decide), z_upsE, if_pos rfl, z_ups_ne (by decide), z_ups_ne (by decide), z_ups_ne (by decide), z_ups_ne (by decide), z_ups_ne (by decide),  s12 60 (by decide) (by decide) (by omega)]
                      have f61 : ∀ j, F 61 j = if j = n then nI cc else S 61 j := fun j => by rw [hF, z_ups_ne (by decide), z_ups_ne (by decide), z_upsE, if_pos rfl, z_ups_ne (by decide), z_ups_ne (by decide), z_ups_ne (by decide), z_ups_ne (by decide), z_ups_ne (by decide), z_ups_ne (by decide),  s12 61 (by decide) (by decide) (by omega)]
                      have fr : ∀ b, b ≠ 12 → b ≠ 8 → b ≠ 52 → (b < 55 ∨ 61 < b) → b < nx → F b = S b := fun b q1 q2 q3 q4 q5 => by rw [fin b q4 q3, s12 b q1 q2 q5]
                      have f8 : ∀ q, F 8 q = if q = 3 then nI (n + 1) else S 8 q := fun q => by rw [fin 8 (by omega) (by decide), hS1, y_fgo_ne (by decide), z_upsE, if_pos rfl, (e3 8 (by omega)).2.1]
                      have f12 : ∀ q, F 12 q = y_fgo S n 12 12 q := fun q => by rw [fin 12 (by omega) (by decide), hS1, y_fgo_12, y_fgo_12, z_ups_ne (by decide), (e3 12 (by omega)).2.1]
                      have fd : ∀ b, 87 ≤ b → F b = S0 b := fun b hb => by rw [fin b (by omega) (by omega), s1 b (by omega) (by omega)]
                      refine ⟨nI n, D', S1, F, z_upR R0 11 n (some nx), nx + 6, sl + 654, ?_, ?_, ?_, ⟨ms ++ [(k, ss, cc, tt, ll, [])], fun i => if i = n then nx else ad i, ⟨?_, ?_, ?_, ?_, ?_⟩, ?_, ?_⟩, fun b hb h8 h52 hm => ?_, fun q hq => by rw [f8, if_neg hq], f52, fun b hb hb2 => ⟨(e3 b hb2).1, by rw [fd b hb, (e3 b hb2).2.1], by rw [z_upR_ne (by omega), (e3 b hb2).2.2]⟩, fun b hb h11 => by rw [z_upR_ne h11, (e3 b (by omega)).2.2], by omega, Nat.le_refl _, by omega⟩
                      · show z_cI 5 83 _ _ = _
                        rw [E83, y_k01 hk, E83_16]
                        simp only [g_6_1, o_8, o_6, M123, g_8_3, J83, y_lt12 h12', z_bs, c1, Int32.not_lt.mp c1, c2, Int32.not_le.mp c2, c3, Int32.not_lt.mp c3, c4, Int32.not_lt.mp c4, c5, Int32.not_lt.mp c5, c6, Int32.not_lt.mp c6, c7, Int32.not_lt.mp c7, c8, Int32.not_lt.mp c8, c9, true_or, or_true, or_self, false_or, or_false, not_true, not_false_eq_true, Classical.not_not, z_10, z_iT, z_iF, z_mk1, z_nulS (show 6 ≤ nx by omega), z_fe0, e1, e4]
                      · show z_cI 2 141 _ _ = _
                        rw [E141, hF]
                        simp only [o_52, M132, xk1, xk2, g_52_2, m2, y_eq12 h12', z_bs, c1, Int32.not_lt.mp c1, c2, Int32.not_le.mp c2, c3, Int32.not_lt.mp c3, c4, Int32.not_lt.mp c4, c5, Int32.not_lt.mp c5, c6, Int32.not_lt.mp c6, c7, Int32.not_lt.mp c7, c8, Int32.not_lt.mp c8, c9, true_or, or_true, or_self, false_or, or_false, not_true, not_false_eq_true, Classical.not_not, z_10, z_iT, z_iF, g_52_3, g_52_4, g_52_5, g_52_6, g_52_7, g_52_8, g_52_9, s_55 i1, s_56 i1, s_57 i1, s_58 i1, s_59 i1, s_60 i1, s_61 i1, i2, p_52_2, p_52_49, g_52_49, m49, nI_1, z_ups_ne (show (52 : Nat) ≠ 55 by decide), z_ups_ne (show (52 : Nat) ≠ 56 by decide), z_ups_ne (show (52 : Nat) ≠ 57 by decide), z_ups_ne (show (52 : Nat) ≠ 58 by decide), z_ups_ne (show (52 : Nat) ≠ 59 by decide), z_ups_ne (show (52 : Nat) ≠ 60 by decide), z_ups_ne (show (52 : Nat) ≠ 61 by decide), z_upsS, z_upsK (show (49 : Nat) ≠ 2 by decide), z_upsK (show (2 : Nat) ≠ 49 by decide), x1]
                      · exact I_ref_fr h_I_ref ⟨fr 7 (by decide) (by decide) (by decide) (by omega) (by omega), fr 86 (by decide) (by decide) (by decide) (by omega) (by omega)⟩
                      · rw [List.length_append, hn]; exact hlen
                      · rw [f8, if_pos rfl, List.length_append, hn]; rfl
                      · rw [f2, List.length_append, hn]; rfl
                      · intro i hi
                        have hi2 : i < n + 1 := by rw [List.length_append, hn] at hi; exact hi
                        by_cases q : i = n
                        · have hg : (ms ++ [(k, ss, cc, tt, ll, [])])[i] = (k, ss, cc, tt, ll, []) := by
                            rw [List.getElem_append_right (by omega)]
                            simp
                          rw [hg]
                          simp only [if_pos q]
                          refine ⟨by rw [q]; simp [z_upR, z_upr], Nat.le_refl _, ⟨hk, hss, hcc, htt, hll, by simp, trivial⟩, y_cM_fr2 e2 (fun _ _ _ => rfl) (z_upR_ne (by omega)) (fun b hb _ => fd b (by omega)), ?_⟩
                          subst q
                          unfold y_mM
                          refine ⟨by rw [f55, if_pos rfl], by rw [f56, if_pos rfl], by rw [f57, if_pos rfl], by rw [f58, if_pos rfl], by rw [f59, if_pos rfl], by rw [f60, if_pos rfl]; rfl, by rw [f61, if_pos rfl]; rfl, fun k hk => absurd hk (Nat.not_lt_zero _)⟩
                        · have hi3 : i < ms.length := by omega
                          rw [List.getElem_append_left hi3]
                          simp only [if_neg q]
                          obtain ⟨k1, k2, k3, k4, k5⟩ := J.2.2.2.1 i (by omega)
                          have a87 := k4.1.1
                          refine ⟨?_, by omega, k3, y_cM_fr2 k4 (fun b _ hb => (e3 b (by omega)).1) ?_ (fun b hb hb2 => by rw [fd b (by omega), (e3 b (by omega)).2.1]), ?_⟩
                          · have : z_upR R0 11 n (some nx) 11 i = R0 11 i := by unfold z_upR z_upr; rw [if_pos rfl, if_neg q]
                            rw [this, (e3 11 (by omega)).2.2]
                            exact k1
                          · rw [z_upR_ne (by omega), (e3 _ (by omega)).2.2]
                          · obtain ⟨g1, g2, g3, g4, g5, g6, g7, g8⟩ := k5
                            unfold y_mM
                            rw [f55, f56, f57, f58, f59, f60, f61, if_neg q, if_neg q, if_neg q, if_neg q, if_neg q, if_neg q, if_neg q, fr 62 (by decide) (by decide) (by decide) (by omega) (by omega)]
                            exact ⟨g1, g2, g3, g4, g5, g6, g7, g8⟩
                      · intro i j hij hj
                        have hj2 : j < n + 1 := by rw [List.length_append, hn] at hj; exact hj
                        simp only []
                        rw [if_neg (show ¬ i = n by omega)]
                        by_cases q : j = n
                        · rw [if_pos q]
                          exact (J.2.2.2.1 i (by omega)).2.1
                        · rw [if_neg q]
                          exact J.2.2.2.2 i j hij (by omega)
                      · intro i j hij hj
                        have hj2 : j < n + 1 := by rw [List.length_append, hn] at hj; exact hj
                        rw [f12, y_fgo_12]
                        by_cases q : j = n
                        · left
                          rw [if_pos (by omega)]
                        · rw [if_neg (by omega), List.getElem_append_left (by omega), List.getElem_append_left (by omega)]
                          exact H i j hij (by omega)
                      · exact J_ed_up hkk E f49 (f52 50 (by decide) (by decide))
                      · have hm := of_decide_eq_false hm
                        exact fr b (fun q => hm (by rw [q]; decide)) h8 h52 (by
                          rcases Nat.lt_or_ge b 55 with q | q
                          · exact Or.inl q
                          · refine Or.inr (Nat.lt_of_not_le fun q2 => ?_)
                            rcases (show b = 55 ∨ b = 56 ∨ b = 57 ∨ b = 58 ∨ b = 59 ∨ b = 60 ∨ b = 61 by omega) with q | q | q | q | q | q | q <;> exact hm (by rw [q]; decide)) (by omega)
  · refine z_R3_no z_code2 h_I_ref ?_ ?_ (J_mvd_no h_I_ref J H E z_code2)
    · show z_cI 5 83 _ _ = _
      rw [E83, if_neg (fun q => d1 (Or.inl q)), if_neg (fun q => d1 (Or.inr q))]
      simp only [o_6, z_bs, M122 z_code2]
    · show z_cI 2 141 _ _ = _
      rw [E141]
      simp only [o_52, z_bs, M131 z_code2]
      by_cases c1 : x < 0
      · rw [if_pos c1]
      · rw [if_neg c1]
        by_cases c2 : x ≤ 1
        · exfalso
          obtain ⟨k, hk, rfl⟩ := nI_of2 (n := 1) rfl c1 c2
          rcases (show k = 0 ∨ k = 1 by omega) with rfl | rfl
          · exact d1 (Or.inl rfl)
          · exact d1 (Or.inr rfl)
        · rw [if_neg c2]
end ZSK
