section ZTH
variable {L : Nat} {Dh : Nat → z_Sh} {S : Nat → Nat → Int32} {R : Nat → Nat → Option Nat} {nx sl : Nat}
variable {f : Nat → Int32} {n c : Nat} {val : Nat → Int32} {ms : List y_Mv} {ad : Nat → Nat} {cs : List y_Cm} {ca : Nat → Nat} {C V : Nat → Bool} {st kk : Nat}
/-! the model reckons a text -/
def y_mx (S : Nat → Nat → Int32) (c : Nat) (f : Nat → Int32) (n : Nat) : Prop := c < 6 ∧ n ≤ 60 ∧ S 67 c = nI n ∧ (∀ i, i < n → S 66 (c * 61 + i) = f i) ∧ S 66 (c * 61 + n) = 0
/-- what letters stand for -/
def y_vals (ms : List y_Mv) (cs : List y_Cm) (C V : Nat → Bool) (st : Nat) (S : Nat → Nat → Int32) (val : Nat → Int32) : Prop := val 0 = S 64 0 ∧ val 1 = S 64 1 ∧ val 2 = S 64 2 ∧ val 3 = S 52 16 ∧ val 4 = (if (y_fst ms).1 < 601 then 1 else 0) ∧ val 5 = nI (y_QL C cs).length ∧ val 6 = (match ms with | [] => 0 | m :: _ => nI (y_lost ms m.2.2.2.1 st C V ms))
def y_Env (ms : List y_Mv) (ad : Nat → Nat) (cs : List y_Cm) (ca : Nat → Nat) (C V : Nat → Bool) (st kk : Nat) (Dh : Nat → z_Sh) (R : Nat → Nat → Option Nat) (nx : Nat) (val : Nat → Int32) (S : Nat → Nat → Int32) : Prop := J_mov ms ad Dh S R nx ∧ J_cam cs ca Dh S R nx ∧ y_bo (S 53) C ∧ y_bo (S 54) V ∧ S 52 11 = nI st ∧ 1 ≤ st ∧ st ≤ 20 ∧ kk < 100000 ∧ y_vals ms cs C V st S val ∧ J_ed kk ms S
/-- what reckoning may write -/
def y_lf (S S' : Nat → Nat → Int32) : Prop := (∀ b, b ≠ 52 → (b < 69 ∨ (71 < b ∧ b < 80) ∨ 85 < b) → S' b = S b) ∧ ∀ q, q ≠ 25 → q ≠ 46 → q ≠ 50 → S' 52 q = S 52 q
theorem y_lf_id : y_lf S S := ⟨fun _ _ _ => rfl, fun _ _ _ _ => rfl⟩
theorem y_lf_tr {S1 S2 : Nat → Nat → Int32} (h1 : y_lf S S1) (h2 : y_lf S1 S2) : y_lf S S2 := ⟨fun b x y => (h2.1 b x y).trans (h1.1 b x y), fun q x y z => (h2.2 q x y z).trans (h1.2 q x y z)⟩
def y_uf (S S' : Nat → Nat → Int32) : Prop := (∀ b, b ≠ 52 → (b < 80 ∨ 85 < b) → S' b = S b) ∧ ∀ q, q ≠ 25 → q ≠ 46 → q ≠ 50 → S' 52 q = S 52 q
theorem y_uf_tr {S1 S2 : Nat → Nat → Int32} (h1 : y_uf S S1) (h2 : y_uf S1 S2) : y_uf S S2 := ⟨fun b x y => (h2.1 b x y).trans (h1.1 b x y), fun q x y z => (h2.2 q x y z).trans (h1.2 q x y z)⟩
theorem y_uf_l {S' : Nat → Nat → Int32} (h : y_uf S S') : y_lf S S' := ⟨fun b x y => h.1 b x (by omega), h.2⟩
theorem y_mx_uf {S' : Nat → Nat → Int32} (h : y_mx S c f n) (e : y_lf S S') : y_mx S' c f n := by
  unfold y_mx
  rw [e.1 66 (by decide) (by omega), e.1 67 (by decide) (by omega)]
  exact h
theorem y_Env_uf {S' : Nat → Nat → Int32} (h : y_Env ms ad cs ca C V st kk Dh R nx val S) (e : y_lf S S') (hE : J_ed kk ms S') : y_Env ms ad cs ca C V st kk Dh R nx val S' := by
  obtain ⟨h1, h2, h3, h4, h5, h6, h7, h8, h9, h10⟩ := h
  refine ⟨J_mov_fr h1 ⟨by rw [e.1 8 (by decide) (by omega)], e.2 2 (by decide) (by decide) (by decide), e.1 55 (by decide) (by omega), e.1 56 (by decide) (by omega), e.1 57 (by decide) (by omega), e.1 58 (by decide) (by omega), e.1 59 (by decide) (by omega), e.1 60 (by decide) (by omega), e.1 61 (by decide) (by omega), e.1 62 (by decide) (by omega), fun b hb => e.1 b (by omega) (by omega)⟩, J_cam_fr h2 (by rw [e.1 16 (by decide) (by omega)]) (e.2 12 (by decide) (by decide) (by decide)) (e.1 63 (by decide) (by omega)) rfl (Nat.le_refl _) (fun b hb _ _ => ⟨rfl, e.1 b (by omega) (by omega)⟩), by rw [e.1 53 (by decide) (by omega)]; exact h3, by rw [e.1 54 (by decide) (by omega)]; exact h4, (e.2 11 (by decide) (by decide) (by decide)).trans h5, h6, h7, h8, ?_, hE⟩
  unfold y_vals
  rw [e.1 64 (by decide) (by omega), e.2 16 (by decide) (by decide) (by decide)]
  exact h9
theorem y_mx_at (h : y_mx S c f n) {a : Nat} (ha : a < n) : z_ldB (z_mk L Dh S R nx sl) (some 66) (nI c * 61 + nI a) = some (f a) := by
  obtain ⟨h1, h2, h3, h4, h5⟩ := h
  rw [y_61, l_66 (z_in_nI (by omega) (by decide)), z_cl (by omega), h4 a ha]
theorem y_mx_n (h : y_mx S c f n) : z_ldB (z_mk L Dh S R nx sl) (some 66) (nI c * 61 + nI n) = some 0 := by
  obtain ⟨h1, h2, h3, h4, h5⟩ := h
  rw [y_61, l_66 (z_in_nI (by omega) (by decide)), z_cl (by omega), h5]
def y_nd (f : Nat → Int32) (n a : Nat) : Prop := a = n ∨ (a < n ∧ y_id (f a) = false)
theorem y_ed_25 {x : Int32} (h : J_ed kk ms S) : J_ed kk ms (z_ups S 52 25 x) := by
  obtain ⟨e, h1, h2, h3, h4⟩ := h
  refine ⟨e, h1, by rw [z_upsK (by decide)]; exact h2, by rw [z_upsK (by decide)]; exact h3, ?_⟩
  rw [z_upsK (by decide), z_ups_ne (by decide)]
  exact h4
theorem y_uf_25 {x : Int32} : y_uf S (z_ups S 52 25 x) := ⟨fun b h _ => z_ups_ne h, fun q h _ _ => z_upsK h⟩
theorem M176_144 : ∀ (j a : Nat) (v : Int32) (S : Nat → Nat → Int32), y_mx S c f n → S 52 25 = nI a → a ≤ n → y_nd f n (y_dgs f n j a v).1 → L176_144 (some 52) (nI c) v (z_mk L Dh S R nx sl) = some ((y_dgs f n j a v).2, z_mk L Dh (z_ups S 52 25 (nI (y_dgs f n j a v).1)) R nx sl) := by
  have stop : ∀ (a : Nat) (v : Int32) (S : Nat → Nat → Int32), y_mx S c f n → S 52 25 = nI a → y_nd f n a → L176_144 (some 52) (nI c) v (z_mk L Dh S R nx sl) = some (v, z_mk L Dh (z_ups S 52 25 (nI a)) R nx sl) := fun a v S h h25 hnd => by
    have es : z_ups S 52 25 (nI a) = S := by
      funext b q
      by_cases w : b = 52
      · subst w
        by_cases w2 : q = 25
        · subst w2; rw [z_upsS, h25]
        · rw [z_upsK w2]
      · rw [z_ups_ne w]
    rw [E176_144, es]
    rcases hnd with rfl | ⟨w1, w2⟩
    · simp only [g_52_19, g_52_25, z_bs, h25, y_mx_n h, o_52, M172]
      rw [if_neg (show ¬ y_id 0 = true by decide), if_pos rfl]
    · simp only [g_52_19, g_52_25, z_bs, h25, y_mx_at h w1, o_52, M172, w2, z_ff, z_iF, z_e00, z_iT]
  intro j
  induction j with
  | zero => intro a v S h h25 ha hnd; exact stop a v S h h25 hnd
  | succ j ih =>
    intro a v S h h25 ha hnd
    rw [y_dgs_s] at hnd ⊢
    by_cases w : a < n ∧ y_id (f a) = true
    · rw [if_pos w] at hnd ⊢
      have h1 : y_mx (z_ups S 52 25 (nI (a + 1))) c f n := y_mx_uf h (y_uf_l y_uf_25)
      have e := ih (a + 1) (((10 : Int32) * v + f a) - 48) (z_ups S 52 25 (nI (a + 1))) h1 z_upsS (by omega) hnd
      have ess : ∀ x : Int32, z_ups (z_ups S 52 25 (nI (a + 1))) 52 25 x = z_ups S 52 25 x := fun x => by
        funext b q
        by_cases w : b = 52
        · subst w
          by_cases w2 : q = 25
          · subst w2; rw [z_upsS, z_upsS]
          · rw [z_upsK w2, z_upsK w2, z_upsK w2]
        · rw [z_ups_ne w, z_ups_ne w, z_ups_ne w]
      rw [ess] at e
      rw [E176_144]
      simp only [g_52_19, g_52_25, z_bs, h25, y_mx_at h w.1, o_52, M172, w.2, z_tt, z_iT, z_10, z_iF, p_52_25, nI_1]
      exact e
    · rw [if_neg w] at hnd ⊢
      exact stop a v S h h25 hnd
theorem M176 (h : y_mx S c f n) (hE : y_Env ms ad cs ca C V st kk Dh R nx val S) {a : Nat} (ha : a ≤ n) (h25 : S 52 25 = nI a) {x : Nat × Int32} (hx : y_unt f n val a = .inr x) (hnd : y_nd f n x.1) : ∃ S', z_cI 8 176 [.inr (.inr (some 52)), .inl (nI c)] (z_mk L Dh S R nx sl) = some (x.2, z_mk L Dh S' R nx sl) ∧ S' 52 25 = nI x.1 ∧ y_uf S S' ∧ J_ed kk ms S' := by
  have hb := y_unt_b f n val a ha
  rw [hx] at hb
  have han : a < n := by have := hb.1; have := hb.2; omega
  obtain ⟨E1, E2, E3, E4, E5, E6, E7, E8, E9, E10⟩ := id hE
  obtain ⟨v0, v1, v2, v3, v4, v5, v6⟩ := E9
  unfold y_unt at hx
  rw [E176]
  simp only [g_52_19, g_52_25, z_bs, h25, y_mx_at h han, o_52, M173]
  cases hy : y_lt (f a) with
  | none =>
    simp only [Option.isSome_none, z_ff, z_iF, z_e00, z_iT]
    by_cases w : (y_dgs f n 4 a 0).1 = a
    · rw [if_pos w] at hx
      unfold y_unl at hx
      rw [if_pos han, hy] at hx
      cases hx
    · rw [if_neg w] at hx
      have hx := Sum.inr.inj hx
      rw [← hx] at hnd ⊢
      exact ⟨_, M176_144 4 a 0 S h h25 ha hnd, z_upsS, y_uf_25, y_ed_25 E10⟩
  | some i =>
    have hid := y_lt_id hy
    have e4 : y_dgs f n 4 a 0 = (a, 0) := by
      rw [show (4 : Nat) = 3 + 1 from rfl, y_dgs_s, if_neg (show ¬ (a < n ∧ y_id (f a) = true) from fun q => by rw [hid] at q; cases q.2)]
    rw [e4, if_pos rfl] at hx
    unfold y_unl at hx
    rw [if_pos han, hy] at hx
    have hx : (a + 1, val i) = x := Sum.inr.inj hx
    rw [← hx]
    simp only [Option.isSome_some, z_tt, z_iT, z_10, z_iF, p_52_25, z_bs, nI_1]
    obtain ⟨T, hT⟩ : ∃ T, T = z_ups S 52 25 (nI (a + 1)) := ⟨_, rfl⟩
    rw [← hT]
    have uT : y_uf S T := by rw [hT]; exact y_uf_25
    have t25 : T 52 25 = nI (a + 1) := by rw [hT, z_upsS]
    have edT : J_ed kk ms T := by rw [hT]; exact y_ed_25 E10
    have ET := y_Env_uf hE (y_uf_l uT) edT
    obtain ⟨F1, F2, F3, F4, F5, F6, F7, F8, F9, F10⟩ := ET
    have plain : ∀ r : Int32, val i = r → ∃ S', (some (r, z_mk L Dh T R nx sl) : Option (Int32 × z_H)) = some (val i, z_mk L Dh S' R nx sl) ∧ S' 52 25 = nI (a + 1) ∧ y_uf S S' ∧ J_ed kk ms S' := fun r hr => ⟨T, by rw [hr], t25, uT, edT⟩
    have t64 : T 64 = S 64 := uT.1 64 (by decide) (by omega)
    unfold y_lt at hy
    by_cases c0 : f a = 119
    · rw [if_pos c0] at hy
      obtain rfl := Option.some.inj hy
      rw [if_neg (fun q => q c0)]
      simp only [g_52_14, z_bs, l_64 (i := 0) rfl, t64]
      exact plain _ v0
    · rw [if_neg c0] at hy
      rw [if_pos c0]
      by_cases c1 : f a = 103
      · rw [if_pos c1] at hy
        obtain rfl := Option.some.inj hy
        rw [if_neg (fun q => q c1)]
        simp only [g_52_14, z_bs, l_64 (i := 1) rfl, t64]
        exact plain _ v1
      · rw [if_neg c1] at hy
        rw [if_pos c1]
        by_cases c2 : f a = 115
        · rw [if_pos c2] at hy
          obtain rfl := Option.some.inj hy
          rw [if_neg (fun q => q c2)]
          simp only [g_52_14, z_bs, l_64 (i := 2) rfl, t64]
          exact plain _ v2
        · rw [if_neg c2] at hy
          rw [if_pos c2]
          by_cases c3 : f a = 116
          · rw [if_pos c3] at hy
            obtain rfl := Option.some.inj hy
            rw [if_neg (fun q => q c3)]
            simp only [g_52_16, z_bs, uT.2 16 (by decide) (by decide) (by decide)]
            exact plain _ v3
          · rw [if_neg c3] at hy
            rw [if_pos c3]
            by_cases c4 : f a = 104
            · rw [if_pos c4] at hy
              obtain rfl := Option.some.inj hy
              rw [if_pos (show ¬ f a = 113 by rw [c4]; decide), if_pos (show ¬ f a = 98 by rw [c4]; decide)]
              obtain ⟨S2, g1, g2, g3, g4, g5⟩ := M149 (L := L) (sl := sl) F1 F8 F10
              simp only [o_52, z_bs, g1, g_52_51, l_85 (i := 0) rfl]
              refine ⟨S2, ?_, (g5 25 (by decide)).trans t25, y_uf_tr uT ⟨fun b x y => g4 b (by omega) (by omega) x, fun q _ _ z => g5 q z⟩, g3⟩
              rw [show S2 85 (Int32.toNatClampNeg 0) = y_f9 (y_fst ms) (y_fst ms).1 from g2.1, v4]
              unfold y_f9
              by_cases d : (y_fst ms).1 < 601
              · rw [if_pos d, if_pos d, if_pos (Int32.not_lt.mp (nI_pos (by omega)))]
              · rw [if_neg d, if_neg d, if_neg (by decide)]
            · rw [if_neg c4] at hy
              by_cases c5 : f a = 113
              · rw [if_pos c5] at hy
                obtain rfl := Option.some.inj hy
                rw [if_neg (fun q => q c5)]
                simp only [o_52, z_bs, M167z F3 F2]
                exact plain _ v5
              · rw [if_neg c5] at hy
                rw [if_pos c5]
                by_cases c6 : f a = 98
                · rw [if_pos c6] at hy
                  obtain rfl := Option.some.inj hy
                  rw [if_neg (fun q => q c6)]
                  simp only [g_52_2, z_bs, F1.2.2.1]
                  cases hms : ms with
                  | nil =>
                    rw [hms] at v6
                    rw [if_neg (fun q => q rfl)]
                    rw [hms] at plain
                    exact plain _ v6
                  | cons m r =>
                    have h12 := F1.1
                    have hl0 : 0 < ms.length := by rw [hms]; exact Nat.succ_pos _
                    have hm0 : ms[0] = m := by simp only [hms]; rfl
                    obtain ⟨k1, k2, k3, k4, k5⟩ := F1.2.2.2.1 0 hl0
                    rw [hm0] at k3 k5
                    have e58 : T 58 0 = nI m.2.2.2.1 := k5.2.2.2.1
                    obtain ⟨S2, g1, g2⟩ := M158 (L := L) (sl := sl) (t := m.2.2.2.1) k3.2.2.2.1 F7 F6 F1 F5 F3 F4
                    have v6' : val 6 = nI (y_lost ms m.2.2.2.1 st C V ms) := by rw [v6]; simp only [hms]
                    rw [← hms, if_pos (nI_ne0 (by omega) (by omega))]
                    simp only [g_52_6, z_bs, l_58 (i := 0) rfl]
                    rw [show T 58 (Int32.toNatClampNeg 0) = nI m.2.2.2.1 from e58]
                    simp only [o_52, z_bs, g1]
                    refine ⟨S2, by rw [v6'], (g2.2 25 (by decide)).trans t25, y_uf_tr uT ⟨fun b x y => g2.1 b (by omega) (by omega) (by omega) (by omega) x, fun q _ y _ => g2.2 q y⟩, ?_⟩
                    obtain ⟨e, h1, h2, h3, h4⟩ := F10
                    refine ⟨e, h1, (g2.2 49 (by decide)).trans h2, by rw [g2.2 50 (by decide)]; exact h3, ?_⟩
                    rw [g2.2 50 (by decide), g2.1 85 (by decide) (by decide) (by decide) (by decide) (by decide)]
                    exact h4
                · rw [if_neg c6] at hy; cases hy
end ZTH
