section ZSZ
variable {L : Nat} {Dh : Nat → z_Sh} {S : Nat → Nat → Int32} {R : Nat → Nat → Option Nat} {nx sl : Nat}
/-! shots and their best order -/
def y_Dr (S : Nat → Nat → Int32) (k s : Nat) : Int32 := S (29 + k) s
def I_bst (S : Nat → Nat → Int32) : Prop := ∃ n : Nat, n ≤ 7 ∧ S 28 6 = nI n ∧ y_rc S n (y_bst (y_Dr S) n)
theorem y_sh1_c {D D' : Nat → Nat → Int32} (hD : ∀ k, k < 6 → D' k = D k) (pre : List Nat) (s : Nat) (x : Int32 × Int32) : y_sh1 D' pre s x = y_sh1 D pre s x := by
  unfold y_sh1 y_ct
  rw [hD 0 (by decide), hD 1 (by decide), hD 2 (by decide), hD 3 (by decide), hD 4 (by decide), hD 5 (by decide)]
theorem y_el_c {D D' : Nat → Nat → Int32} (hD : ∀ k, k < 6 → D' k = D k) : ∀ (q pre : List Nat) (x : Int32 × Int32), y_el D' q pre x = y_el D q pre x := by
  intro q
  induction q with
  | nil => intro pre x; rfl
  | cons s q ih =>
    intro pre x
    rw [y_el_s, y_el_s, y_sh1_c hD]
    cases y_sh1 D pre s x with
    | none => exact (show (none : Option (Int32 × Int32)) = none from Eq.refl none)
    | some y => simp only [z_bs]; exact ih _ _
theorem y_fo_c {D D' : Nat → Nat → Int32} (hD : ∀ k, k < 6 → D' k = D k) : y_fo D' = y_fo D := by
  funext st l
  unfold y_fo
  rw [y_el_c hD]
theorem y_bst_c {D D' : Nat → Nat → Int32} (hD : ∀ k, k < 6 → D' k = D k) (n : Nat) : y_bst D' n = y_bst D n := by
  unfold y_bst
  rw [y_fo_c hD]
theorem y_rc_c {S' : Nat → Nat → Int32} {n : Nat} (e1 : ∀ q, q = 6 ∨ q = 9 ∨ q = 10 ∨ q = 11 → S' 28 q = S 28 q) (e2 : S' 36 = S 36) : ∀ st : y_Bs, y_rc S n st → y_rc S' n st
  | none, h => (e1 9 (Or.inr (Or.inl (Eq.refl 9)))).trans h
  | some b, h => ⟨(e1 9 (Or.inr (Or.inl (Eq.refl 9)))).trans h.1, (e1 10 (Or.inr (Or.inr (Or.inl (Eq.refl 10))))).trans h.2.1, (e1 11 (Or.inr (Or.inr (Or.inr (Eq.refl 11))))).trans h.2.2.1, h.2.2.2.1, fun i hi => by rw [e2]; exact h.2.2.2.2 i hi⟩
theorem I_bst_fr {S' : Nat → Nat → Int32} (h : I_bst S) (e : (∀ q, q = 6 ∨ q = 9 ∨ q = 10 ∨ q = 11 → S' 28 q = S 28 q) ∧ (∀ k, k < 6 → S' (29 + k) = S (29 + k)) ∧ S' 36 = S 36) : I_bst S' := by
  obtain ⟨n, h1, h2, h3⟩ := h
  refine ⟨n, h1, (e.1 6 (Or.inl (Eq.refl 6))).trans h2, ?_⟩
  rw [y_bst_c (D := y_Dr S) (D' := y_Dr S') (fun k hk => e.2.1 k hk) n]
  exact y_rc_c e.1 e.2.2 _ h3
theorem z_no_bst {c : Int32} (h : I_bst S) : I_bst (z_no 86 (z_no 7 S c) c) := I_bst_fr h ⟨fun _ _ => rfl, fun k hk => by rw [z_no_ne (by omega), z_no_ne (by omega)], rfl⟩
theorem y_hd_all {n : Nat} (h : n ≤ 7) : (y_prm n).head? = some (List.range n) := by
  rcases (show n = 0 ∨ n = 1 ∨ n = 2 ∨ n = 3 ∨ n = 4 ∨ n = 5 ∨ n = 6 ∨ n = 7 by omega) with rfl | rfl | rfl | rfl | rfl | rfl | rfl | rfl <;> decide +kernel
theorem M194_24 {n : Nat} {w : Int32} (hn : n ≤ 7) (h28 : S 52 28 = nI n) : ∀ (j i : Nat), i + j = n → L194_24 (some 52) w (nI i) (z_mk L Dh (y_fl S 74 i nI) R nx sl) = L194_49 (some 52) w 1 0 (z_mk L Dh (y_fl S 74 n nI) R nx sl) := by
  intro j
  induction j with
  | zero =>
    intro i hi
    obtain rfl : i = n := by omega
    rw [E194_24]
    simp only [g_52_28, z_bs, y_fl_ne (show (52 : Nat) ≠ 74 by decide), h28]
    rw [if_pos (nI_le (Nat.le_refl _) (by omega))]
  | succ j ih =>
    intro i hi
    have i1 : z_in (nI i) 7 = true := z_in_nI (by omega) (by decide)
    have i2 : (nI i).toNatClampNeg = i := z_cl (by omega)
    rw [E194_24]
    simp only [g_52_28, g_52_30, z_bs, y_fl_ne (show (52 : Nat) ≠ 74 by decide), h28, s_74 i1, i2, y_fl_s, nI_1]
    rw [if_neg (nI_ge (by omega) (by omega))]
    exact ih (i + 1) (by omega)
def A_bst (a : Nat) : Bool := decide (a ∈ [7, 74, 75, 86])
def K_bst (k : Nat) : Bool := decide (k ∈ [32, 33])
theorem S_best (h_I_ref : I_ref S) (h_I_sht : I_sht S) (hb : I_bst S) (x : Int32) : z_R2 (fun h => z_cI 2 108 [.inr (.inr (some 6)), .inl x] h) (fun h => z_cI 3 194 [.inr (.inr (some 52)), .inl x] h) L Dh S R nx sl A_bst K_bst (fun S' => I_ref S') := by
  by_cases d1 : x < 0 ∨ 8 < x
  · refine z_R2_no z_code2 rfl rfl h_I_ref ?_ ?_ (z_no_ref h_I_ref z_code2)
    · show z_cI 2 108 _ _ = _
      rw [E108]
      simp only [o_6, z_bs, M122 z_code2]
      rcases d1 with c | c
      · rw [if_pos c]
      · by_cases c0 : x < 0
        · rw [if_pos c0]
        · rw [if_neg c0, if_neg (Int32.not_le.mpr c)]
    · show z_cI 3 194 _ _ = _
      rw [E194]
      simp only [o_52, z_bs, M131 z_code2]
      rcases d1 with c | c
      · rw [if_pos c]
      · by_cases c0 : x < 0
        · rw [if_pos c0]
        · rw [if_neg c0, if_neg (Int32.not_le.mpr c)]
  · have d2 : ¬ x < 0 := fun q => d1 (Or.inl q)
    have d3 : x ≤ 8 := Int32.not_lt.mp (fun q => d1 (Or.inr q))
    obtain ⟨w, hw, rfl⟩ := nI_of2 (n := 8) rfl d2 d3
    obtain ⟨n, hn, n1, n2, n3⟩ := h_I_sht
    obtain ⟨n', hn', m1, hrc⟩ := hb
    obtain rfl : n' = n := (nI_eq (by omega) (by omega)).mp (m1.symm.trans n1)
    have hDm : y_Dm (y_Dr S) n' S := ⟨n2, fun s hs => by
      obtain ⟨a0, a1, a2, a3, a4, a5, -⟩ := n3 s hs
      exact ⟨a0.symm, a1.symm, a2.symm, a3.symm, a4.symm, a5.symm⟩⟩
    have hDb : y_Db (y_Dr S) n' := fun s hs => by
      obtain ⟨-, -, -, -, -, -, b1, b2, b3, b4, b5, b6, b7, b8, b9⟩ := n3 s hs
      exact ⟨b1, b2, b3, b4, b5, b6, b7, b8, b9⟩
    -- the model's run through all orders
    have e24 := M194_24 (L := L) (Dh := Dh) (S := z_ups S 52 32 (-1)) (R := R) (nx := nx) (sl := sl) (w := nI w) hn (by rw [z_upsK (by decide)]; exact n2) n' 0 (by omega)
    rw [y_fl_0] at e24
    obtain ⟨T, hT⟩ : ∃ T, T = y_fl (z_ups S 52 32 (-1)) 74 n' nI := ⟨_, rfl⟩
    rw [← hT] at e24
    have tf : y_bf S T := ⟨fun b x y _ => by rw [hT, y_fl_ne y, z_ups_ne x], fun q x _ => by rw [hT, y_fl_ne (by decide), z_upsK x]⟩
    have ho : y_or T n' (List.range n') := by
      refine ⟨List.length_range, fun i hi => ?_, fun i hi => ?_⟩
      · have hi2 : i < n' := by rw [List.length_range] at hi; exact hi
        rw [hT, y_fl_a, if_pos hi2, List.getElem_range]
      · have hi2 : i < n' := by rw [List.length_range] at hi; exact hi
        rw [List.getElem_range]; exact hi2
    have hch := y_chk_all hn
    have hlen := y_len_all hn
    have hhd := y_hd_all hn
    have hbst : y_bst (y_Dr S) n' = (y_prm n').foldl (y_fo (y_Dr S)) none := rfl
    cases hP : y_prm n' with
    | nil => rw [hP] at hhd; cases hhd
    | cons l r =>
      rw [hP] at hch hlen hhd hbst
      have hl : l = List.range n' := Option.some.inj hhd
      rw [← hl] at ho
      obtain ⟨S2, f1, f2, f3⟩ := M194_49 (L := L) (Dh := Dh) (R := R) (nx := nx) (sl := sl) (w := nI w) hn hDb r l 0 T none hch (by rw [List.length_cons] at hlen; omega) (y_Dm_bf hDm tf) ho (show T 52 32 = -1 by rw [hT, y_fl_ne (by decide), z_upsS])
      rw [← hbst] at f2
      have bf := y_bf_tr tf f3
      have x2 : S2 52 28 = nI n' := (bf.2 28 (by decide) (by decide)).trans n2
      have em : z_cI 3 194 [.inr (.inr (some 52)), .inl (nI w)] (z_mk L Dh S R nx sl) = L194_75 (some 52) (nI w) (z_mk L Dh S2 R nx sl) := by
        rw [E194, if_neg d2, if_pos d3]
        simp only [p_52_32, z_bs]
        exact e24.trans f1
      have fr : z_fr A_bst K_bst S S2 := by
        refine ⟨fun b hb h52 => ?_, fun k hk => ?_⟩
        · have hb := of_decide_eq_false hb
          exact bf.1 b h52 (fun q => hb (by rw [q]; decide)) (fun q => hb (by rw [q]; decide))
        · have hk := of_decide_eq_false hk
          exact bf.2 k (fun q => hk (by rw [q]; decide)) (fun q => hk (by rw [q]; decide))
      have hir : I_ref S2 := I_ref_fr h_I_ref ⟨bf.1 7 (by decide) (by decide) (by decide), bf.1 86 (by decide) (by decide) (by decide)⟩
      have ec : ∀ r0 : Int32, z_cI 1 18 [.inr (.inr (some 28)), .inl (nI w)] (z_mk L Dh S R nx sl) = some (r0, z_mk L Dh S R nx sl) → z_cI 2 108 [.inr (.inr (some 6)), .inl (nI w)] (z_mk L Dh S R nx sl) = some (r0, z_mk L Dh S R nx sl) := fun r0 h => by
        rw [E108, if_neg d2, if_pos d3]
        simp only [g_6_5, o_28, z_bs, h]
      cases hst : y_bst (y_Dr S) n' with
      | none =>
        rw [hst] at hrc f2
        have hrc : S 28 9 = 0 := hrc
        have f2 : S2 52 32 = -1 := f2
        refine ⟨-9, S, S2, ec _ ?_, ?_, fr, hir⟩
        · rw [E18]
          simp only [g_28_9, z_bs, hrc, z_e00, z_iT]
        · show z_cI 3 194 _ _ = _
          rw [em, E194_75]
          simp only [g_52_32, z_bs, f2]
          rw [if_neg (by decide)]
      | some b =>
        rw [hst] at hrc f2
        obtain ⟨r1, r2, r3, r4, r5⟩ := hrc
        obtain ⟨q1, q2, q3, q4, q5⟩ := f2
        have e0 : (0 : Int32).toInt = 0 := rfl
        have em2 : z_cI 3 194 [.inr (.inr (some 52)), .inl (nI w)] (z_mk L Dh S R nx sl) = (if ¬ nI w = (0 : Int32) then (if ¬ nI w = (1 : Int32) then (if nI n' ≤ (nI w - (2 : Int32)) then (some ((-9 : Int32), z_mk L Dh S2 R nx sl)) else ((z_ldI (z_mk L Dh S2 R nx sl) (some 75) (nI w - (2 : Int32))).bind fun x4 => some (x4, z_mk L Dh S2 R nx sl))) else (some (b.2.1, z_mk L Dh S2 R nx sl))) else (some (b.1, z_mk L Dh S2 R nx sl))) := by
          rw [em, E194_75]
          simp only [g_52_32, g_52_33, g_52_28, g_52_31, z_bs, q1, q3, x2]
          rw [if_pos (z_le.mpr (show (0 : Int32).toInt ≤ _ by omega))]
        have ec2 : z_cI 1 18 [.inr (.inr (some 28)), .inl (nI w)] (z_mk L Dh S R nx sl) = if (nI w - (2 : Int32)) < nI n' then (if ¬ nI w = (0 : Int32) then (if ¬ nI w = (1 : Int32) then ((z_ldI (z_mk L Dh S R nx sl) (some 36) (nI w - (2 : Int32))).bind fun x4 => some (x4, z_mk L Dh S R nx sl)) else (some (b.2.1, z_mk L Dh S R nx sl))) else (some (b.1, z_mk L Dh S R nx sl))) else (some ((-9 : Int32), z_mk L Dh S R nx sl)) := by
          rw [E18]
          simp only [g_28_9, g_28_6, g_28_8, g_28_10, g_28_11, z_bs, r1, r2, r3, z_10, z_iF, n1]
        by_cases w0 : w = 0
        · subst w0
          refine ⟨b.1, S, S2, ec _ ?_, ?_, fr, hir⟩
          · rw [ec2, if_pos (z_lt.mpr (by rw [z_nI (by omega)]; show (-2 : Int) < _; omega)), if_neg (fun q => q rfl)]
          · show z_cI 3 194 _ _ = _
            rw [em2, if_neg (fun q => q rfl)]
        · by_cases w1 : w = 1
          · subst w1
            refine ⟨b.2.1, S, S2, ec _ ?_, ?_, fr, hir⟩
            · rw [ec2, if_pos (z_lt.mpr (by rw [z_nI (by omega)]; show (-1 : Int) < _; omega)), if_pos (by decide), if_neg (fun q => q rfl)]
            · show z_cI 3 194 _ _ = _
              rw [em2, if_pos (by decide), if_neg (fun q => q rfl)]
          · have ew : nI w - (2 : Int32) = nI (w - 2) := z_nI_sub (a := w) (b := 2) (by omega)
            have nw0 : ¬ nI w = (0 : Int32) := nI_ne0 (by omega) (by omega)
            have nw1 : ¬ nI w = (1 : Int32) := fun q => w1 ((nI_eq (b := 1) (by omega) (by decide)).mp q)
            by_cases c : w - 2 < n'
            · refine ⟨nI (b.2.2[w - 2]'(by rw [r4]; exact c)), S, S2, ec _ ?_, ?_, fr, hir⟩
              · rw [ec2, ew, if_pos (nI_lt c (by omega)), if_pos nw0, if_pos nw1, l_36 (z_in_nI (show w - 2 < 7 by omega) (by decide)), z_cl (by omega)]
                simp only [z_bs]
                rw [r5 (w - 2) (by rw [r4]; exact c)]
              · show z_cI 3 194 _ _ = _
                rw [em2, ew, if_pos nw0, if_pos nw1, if_neg (nI_ge c (by omega)), l_75 (z_in_nI (show w - 2 < 7 by omega) (by decide)), z_cl (by omega)]
                simp only [z_bs]
                rw [q5 (w - 2) (by rw [q4]; exact c)]
            · refine ⟨-9, S, S2, ec _ ?_, ?_, fr, hir⟩
              · rw [ec2, ew, if_neg (Int32.not_lt.mpr (nI_le (by omega) (by omega)))]
              · show z_cI 3 194 _ _ = _
                rw [em2, ew, if_pos nw0, if_pos nw1, if_pos (nI_le (by omega) (by omega))]
end ZSZ
