section ZTN
variable {L : Nat} {Dh : Nat → z_Sh} {S : Nat → Nat → Int32} {R : Nat → Nat → Option Nat} {nx sl : Nat}
variable {c : Nat} {ms : List y_Mv} {ad : Nat → Nat} {cs : List y_Cm} {ca : Nat → Nat} {st kk : Nat} {tx : Nat → Option (Nat × Nat)}
/-- nothing of the movers is written, though a text may be -/
theorem J_mov_t {S' : Nat → Nat → Int32} {R' : Nat → Nat → Option Nat} (J : J_mov ms ad Dh S R nx) (e1 : S' 8 3 = S 8 3) (e2 : S' 52 2 = S 52 2) (e3 : ∀ b, 55 ≤ b → b ≤ 62 → S' b = S b) (e4 : R' 11 = R 11) (e5 : ∀ b, 87 ≤ b → Dh b ≠ .inr (.inr (9, [2, 0, 0, 0, 2])) → S' b = S b ∧ R' b = R b) : J_mov ms ad Dh S' R' nx := by
  obtain ⟨h1, h2, h3, h4, h5⟩ := J
  refine ⟨h1, e1.trans h2, e2.trans h3, fun i hi => ?_, h5⟩
  obtain ⟨k1, k2, k3, k4, k5⟩ := h4 i hi
  obtain ⟨q0, q1, q2, q3, q4, q5, q6, -⟩ := id k4.1
  have ns : ∀ b, ad i ≤ b → b ≤ ad i + 5 → Dh b ≠ .inr (.inr (9, [2, 0, 0, 0, 2])) := fun b x y => by
    rcases (show b = ad i ∨ b = ad i + 1 ∨ b = ad i + 2 ∨ b = ad i + 3 ∨ b = ad i + 4 ∨ b = ad i + 5 by omega) with rfl | rfl | rfl | rfl | rfl | rfl
    · rw [q1]; intro w; exact absurd (congrArg Prod.fst (Sum.inr.inj (Sum.inr.inj w))) (by decide)
    · rw [q2]; intro w; cases w
    · rw [q3]; intro w; cases w
    · rw [q4]; intro w; cases w
    · rw [q5]; intro w; cases w
    · rw [q6]; intro w; cases w
  refine ⟨by rw [e4]; exact k1, k2, k3, y_cM_fr2 k4 (fun _ _ _ => rfl) (e5 _ q0 (ns _ (by omega) (by omega))).2 (fun b x y => (e5 b (by omega) (ns b x y)).1), ?_⟩
  unfold y_mM
  rw [e3 55 (by omega) (by omega), e3 56 (by omega) (by omega), e3 57 (by omega) (by omega), e3 58 (by omega) (by omega), e3 59 (by omega) (by omega), e3 60 (by omega) (by omega), e3 61 (by omega) (by omega), e3 62 (by omega) (by omega)]
  exact k5
def y_vl (ms : List y_Mv) (cs : List y_Cm) (C V : Nat → Bool) (st : Nat) (S : Nat → Nat → Int32) (i : Nat) : Int32 := if i < 3 then S 64 i else if i = 3 then S 52 16 else if i = 4 then (if (y_fst ms).1 < 601 then 1 else 0) else if i = 5 then nI (y_QL C cs).length else y_v6 ms st C V
/-- what the class's part leaves -/
def y_lc1 (Dh : Nat → z_Sh) (S S1 : Nat → Nat → Int32) (R R1 : Nat → Nat → Option Nat) : Prop := (∀ b, b < 87 → b ≠ 8 → (b < 12 ∨ 16 < b) → b ≠ 22 → S1 b = S b) ∧ (∀ q, q ≠ 6 → q ≠ 7 → q ≠ 8 → S1 8 q = S 8 q) ∧ (∀ q, q ≠ 2 → q ≠ 3 → S1 16 q = S 16 q) ∧ (∀ q, q < 4 → S1 22 q = S 22 q) ∧ (∀ b, 87 ≤ b → Dh b ≠ .inr (.inr (9, [2, 0, 0, 0, 2])) → S1 b = S b ∧ R1 b = R b) ∧ (∀ b, 87 ≤ b → S1 b 1 = S b 1 ∧ R1 b 0 = R b 0) ∧ ∀ b, b < 87 → R1 b = R b
theorem y_let (hc : c < 6) (hD : I_dir S) (hcov : I_cov S) (hsaf : I_saf S) (hstr : I_str S) (hlet : I_let S) (htel : I_tel S) (J : J_mov ms ad Dh S R nx) (H : J_hit ms S) (Jc : J_cam cs ca Dh S R nx) (Jt : J_txt tx Dh S R nx) (hkk : kk < 90000) (Ed : J_ed kk ms S) : ∃ v S1 R1, z_cI 62 40 [.inr (.inr (some 18)), .inl (nI c), .inr (.inr (some 8)), .inr (.inr (some 16))] (z_mk L Dh S R nx sl) = some (y_b v, z_mk L Dh S1 R1 nx sl) ∧ y_lc1 Dh S S1 R R1 ∧ J_hit ms S1 ∧ ∀ S1', (∀ b, b ≠ 7 → b ≠ 22 → S1' b = S1 b) → ∃ S2, z_cI 10 180 [.inr (.inr (some 52)), .inl (nI c)] (z_mk L Dh S1' R1 nx sl) = some (y_b v, z_mk L Dh S2 R1 nx sl) ∧ y_lf S1' S2 ∧ J_ed (kk + 1) ms S2 := by
  have hj := Jt.1 c hc
  have c1 : z_in (nI c) 6 = true := z_in_nI hc (by decide)
  have c2 : (nI c).toNatClampNeg = c := z_cl (by omega)
  obtain ⟨st, hst1, hst, h84, h11⟩ := y_st20 hstr
  cases ht : tx c with
  | none =>
    rw [ht] at hj
    have hj : R 21 c = none ∧ S 67 c = 0 := hj
    refine ⟨decide (c ≠ 0), S, R, ?_, ⟨fun _ _ _ _ _ => rfl, fun _ _ _ _ => rfl, fun _ _ _ => rfl, fun _ _ => rfl, fun _ _ _ => ⟨rfl, rfl⟩, fun _ _ => ⟨rfl, rfl⟩, fun _ _ => rfl⟩, H, fun S1' h1 => ⟨S1', ?_, y_lf_id, J_ed_fr Ed (by rw [h1 52 (by decide) (by decide)]) (by rw [h1 52 (by decide) (by decide)]) (h1 85 (by decide) (by decide))⟩⟩
    · rw [E40]
      simp only [g_18_1, z_bs, l_21 c1, c2, hj.1, z_nulN, z_tt, z_iT]
      by_cases q : c = 0
      · subst q; rw [if_pos (by rfl)]; rfl
      · rw [if_neg (nI_ne0 (by omega) (by omega)), decide_eq_true q]; rfl
    · rw [E180]
      simp only [g_52_20, z_bs, l_67 c1, c2, show S1' 67 c = 0 by rw [h1 67 (by decide) (by decide)]; exact hj.2, z_e00, not_true, z_iF]
      by_cases q : c = 0
      · subst q; rw [if_pos (by decide)]; rfl
      · rw [if_neg (show ¬ nI c ≤ (0 : Int32) from nI_ge (a := 0) (by omega) (by omega)), decide_eq_true q]; rfl
  | some p =>
    rw [ht] at hj
    obtain ⟨a1, a2, a3, a4, a5, a6, a7, a8, a9, a10, a11, a12, a13⟩ := hj
    have hO : y_To Dh R p.1 := ⟨a2, a4, a5, a6⟩
    have E : y_Ec ms ad cs ca st p.1 p.2 (S 9) (S 10) (S (p.1 + 1)) Dh R nx S := ⟨J, Jc, hD, rfl, rfl, hcov.2, hsaf.2, h84, hst, hlet, a9, rfl, a2⟩
    obtain ⟨S', A, e1, e2, e3⟩ := M40 (L := L) (sl := sl) (val := y_vl ms cs (y_set (S 9)) (y_set (S 10)) st S) hc a1 hO a8 (fun i hi => (a11 i hi).2) a13 E H rfl rfl rfl (fun q hq => by
      unfold y_vl
      by_cases w : q < 3
      · rw [if_pos w]; exact htel.1 q w
      · have w3 : q = 3 := by omega
        rw [if_neg w, if_pos w3, w3]; exact htel.2)
    have fr : ∀ b, b ≠ p.1 → b ≠ 8 → (b < 12 ∨ 16 < b) → b ≠ 22 → y_tc S' p.1 A (-1) b = S b := fun b x0 x y z => by rw [y_tcn x0, e2.1 b x y z]
    have nb : ∀ b, Dh b ≠ .inr (.inr (9, [2, 0, 0, 0, 2])) → b ≠ p.1 := fun b h q => h (by rw [q]; exact a4)
    refine ⟨y_val (S (p.1 + 1)) p.2 (y_vl ms cs (y_set (S 9)) (y_set (S 10)) st S), y_tc S' p.1 A (-1), z_upR R p.1 4 (some 22), e1, ⟨fun b hb x y z => fr b (by omega) x y z, fun q x y z => by rw [y_tcn (by omega)]; exact e2.2.1 q x y z, fun q x y => by rw [y_tcn (by omega)]; exact e2.2.2.1 q x y, fun q x => by rw [y_tcn (by omega)]; exact e2.2.2.2 q x, fun b hb h => ⟨fr b (nb b h) (by omega) (by omega) (by omega), z_upR_ne (nb b h)⟩, fun b hb => ⟨?_, ?_⟩, fun b hb => z_upR_ne (by omega)⟩, J_hit_fr e3 (by rw [y_tcn (by omega)]), fun S1' h1 => ?_⟩
    · by_cases q : b = p.1
      · rw [q, y_tc1, e2.1 p.1 (by omega) (by omega) (by omega)]
      · rw [fr b q (by omega) (by omega) (by omega)]
    · by_cases q : b = p.1
      · rw [q]; unfold z_upR z_upr; rw [if_pos rfl, if_neg (by decide)]
      · rw [z_upR_ne q]
    · have fs : ∀ b, b < 87 → b ≠ 7 → b ≠ 8 → (b < 12 ∨ 16 < b) → b ≠ 22 → S1' b = S b := fun b x0 x1 x2 x3 x4 => by rw [h1 b x1 x4, fr b (by omega) x2 x3 x4]
      have fd : ∀ b, 87 ≤ b → Dh b ≠ .inr (.inr (9, [2, 0, 0, 0, 2])) → S1' b = S b ∧ z_upR R p.1 4 (some 22) b = R b := fun b x0 x1 => ⟨by rw [h1 b (by omega) (by omega), fr b (nb b x1) (by omega) (by omega) (by omega)], z_upR_ne (nb b x1)⟩
      have hEd : J_ed (kk + 1) ms S1' := J_ed_fr Ed (by rw [fs 52 (by decide) (by decide) (by decide) (by omega) (by decide)]) (by rw [fs 52 (by decide) (by decide) (by decide) (by omega) (by decide)]) (fs 85 (by decide) (by decide) (by decide) (by omega) (by decide))
      have hmx : y_mx S1' c (S (p.1 + 1)) p.2 := by
        refine ⟨hc, a8, by rw [fs 67 (by decide) (by decide) (by decide) (by omega) (by decide)]; exact a10, fun i hi => ?_, ?_⟩
        · rw [fs 66 (by decide) (by decide) (by decide) (by omega) (by decide)]; exact (a11 i hi).1.symm
        · rw [fs 66 (by decide) (by decide) (by decide) (by omega) (by decide)]; exact a12
      have hEnv : y_Env ms ad cs ca (y_set (S 9)) (y_set (S 10)) st (kk + 1) Dh (z_upR R p.1 4 (some 22)) nx (y_vl ms cs (y_set (S 9)) (y_set (S 10)) st S) S1' := by
        refine ⟨J_mov_t J ?_ (by rw [fs 52 (by decide) (by decide) (by decide) (by omega) (by decide)]) (fun b x y => fs b (by omega) (by omega) (by omega) (by omega) (by omega)) (z_upR_ne (by omega)) fd, J_cam_fr Jc ?_ (by rw [fs 52 (by decide) (by decide) (by decide) (by omega) (by decide)]) (fs 63 (by decide) (by decide) (by decide) (by omega) (by decide)) (z_upR_ne (by omega)) (Nat.le_refl _) (fun b hb _ hs => ⟨rfl, (fd b hb (by rw [hs]; intro w; exact absurd (congrArg Prod.fst (Sum.inr.inj (Sum.inr.inj w))) (by decide))).1⟩), by rw [fs 53 (by decide) (by decide) (by decide) (by omega) (by decide)]; exact y_set_b hcov, by rw [fs 54 (by decide) (by decide) (by decide) (by omega) (by decide)]; exact y_set_b hsaf, by rw [fs 52 (by decide) (by decide) (by decide) (by omega) (by decide)]; exact h11, hst1, hst, by omega, ?_, hEd⟩
        · rw [h1 8 (by decide) (by decide), y_tcn (by omega)]; exact e2.2.1 3 (by decide) (by decide) (by decide)
        · rw [h1 16 (by decide) (by decide), y_tcn (by omega)]; exact e2.2.2.1 1 (by decide) (by decide)
        · unfold y_vals
          rw [fs 64 (by decide) (by decide) (by decide) (by omega) (by decide), fs 52 (by decide) (by decide) (by decide) (by omega) (by decide)]
          refine ⟨rfl, rfl, rfl, rfl, rfl, rfl, ?_⟩
          show y_v6 ms st (y_set (S 9)) (y_set (S 10)) = _
          cases ms <;> rfl
      exact M180 a7 hmx hEnv (a13 _)
def J_ltd (kk : Nat) (ms : List y_Mv) (Dh : Nat → z_Sh) (S : Nat → Nat → Int32) (R : Nat → Nat → Option Nat) (nx sl : Nat) (D' : Nat → z_Sh) (S' : Nat → Nat → Int32) (R' : Nat → Nat → Option Nat) (nx' sl' : Nat) : Prop :=
  D' = Dh ∧ nx' = nx ∧ sl' = sl ∧ I_ref S' ∧ I_tel S' ∧ J_hit ms S' ∧ J_ed (kk + 1) ms S' ∧ (∀ b, b < 87 → decide (b ∈ [7, 8, 12, 13, 14, 15, 16, 22, 52, 69, 70, 71, 80, 81, 82, 83, 84, 85, 86]) = false → S' b = S b) ∧ (∀ q, q ≠ 6 → q ≠ 7 → q ≠ 8 → S' 8 q = S 8 q) ∧ (∀ q, q ≠ 2 → q ≠ 3 → S' 16 q = S 16 q) ∧ (∀ q, q ≠ 16 → q ≠ 25 → q ≠ 46 → q ≠ 50 → S' 52 q = S 52 q) ∧ (∀ b, 87 ≤ b → Dh b ≠ .inr (.inr (9, [2, 0, 0, 0, 2])) → S' b = S b ∧ R' b = R b) ∧ (∀ b, 87 ≤ b → S' b 1 = S b 1 ∧ R' b 0 = R b 0) ∧ ∀ b, b < 87 → R' b = R b
/-- both parts together -/
theorem y_ltd {S1 S1' S2 S3 : Nat → Nat → Int32} {R1 : Nat → Nat → Option Nat} (htel3 : I_tel S3) (href : I_ref S3) (h1 : y_lc1 Dh S S1 R R1) (h2 : ∀ b, b ≠ 7 → b ≠ 22 → S1' b = S1 b) (h3 : y_lf S1' S2) (h4 : ∀ b, b ≠ 86 → b ≠ 52 → S3 b = S2 b) (h5 : ∀ q, q ≠ 16 → S3 52 q = S2 52 q) (H : J_hit ms S1) (Ed : J_ed (kk + 1) ms S2) : J_ltd kk ms Dh S R nx sl Dh S3 R1 nx sl := by
  obtain ⟨p1, p2, p3, p4, p5, p6, p7⟩ := h1
  have s2 : ∀ b, b ≠ 52 → b ≠ 7 → b ≠ 22 → b ≠ 86 → (b < 69 ∨ (71 < b ∧ b < 80) ∨ 85 < b) → S3 b = S1 b := fun b x1 x2 x3 x4 x5 => by rw [h4 b x4 x1, h3.1 b x1 x5, h2 b x2 x3]
  refine ⟨rfl, rfl, rfl, href, htel3, J_hit_fr H (s2 12 (by decide) (by decide) (by decide) (by decide) (by omega)), ?_, fun b hb hm => ?_, fun q x y z => by rw [s2 8 (by decide) (by decide) (by decide) (by decide) (by omega)]; exact p2 q x y z, fun q x y => by rw [s2 16 (by decide) (by decide) (by decide) (by decide) (by omega)]; exact p3 q x y, fun q x y z u => by rw [h5 q x, h3.2 q y z u, h2 52 (by decide) (by decide), p1 52 (by decide) (by decide) (by omega) (by decide)], fun b hb h => ⟨by rw [s2 b (by omega) (by omega) (by omega) (by omega) (by omega)]; exact (p5 b hb h).1, (p5 b hb h).2⟩, fun b hb => ⟨by rw [s2 b (by omega) (by omega) (by omega) (by omega) (by omega)]; exact (p6 b hb).1, (p6 b hb).2⟩, p7⟩
  · obtain ⟨e, g1, g2, g3, g4⟩ := Ed
    refine ⟨e, g1, (h5 49 (by decide)).trans g2, by rw [h5 50 (by decide)]; exact g3, ?_⟩
    rw [h5 50 (by decide), h4 85 (by decide) (by decide)]
    exact g4
  · have hm := of_decide_eq_false hm
    have n52 : b ≠ 52 := fun q => hm (by rw [q]; decide)
    have n7 : b ≠ 7 := fun q => hm (by rw [q]; decide)
    have n22 : b ≠ 22 := fun q => hm (by rw [q]; decide)
    have n86 : b ≠ 86 := fun q => hm (by rw [q]; decide)
    have n8 : b ≠ 8 := fun q => hm (by rw [q]; decide)
    have r1 : b < 12 ∨ 16 < b := by
      rcases Nat.lt_or_ge b 12 with q | q
      · exact Or.inl q
      · refine Or.inr (Nat.lt_of_not_le fun q2 => ?_)
        rcases (show b = 12 ∨ b = 13 ∨ b = 14 ∨ b = 15 ∨ b = 16 by omega) with q | q | q | q | q <;> exact hm (by rw [q]; decide)
    have r2 : b < 69 ∨ (71 < b ∧ b < 80) ∨ 85 < b := by
      by_cases q : b < 69 ∨ (71 < b ∧ b < 80) ∨ 85 < b
      · exact q
      · exfalso
        rcases (show b = 69 ∨ b = 70 ∨ b = 71 ∨ b = 80 ∨ b = 81 ∨ b = 82 ∨ b = 83 ∨ b = 84 ∨ b = 85 by omega) with q | q | q | q | q | q | q | q | q <;> exact hm (by rw [q]; decide)
    rw [s2 b n52 n7 n22 n86 r2, p1 b hb n8 r1 n22]
theorem I_tel_l {S1 S1' S2 : Nat → Nat → Int32} {R1 : Nat → Nat → Option Nat} (h : I_tel S) (h1 : y_lc1 Dh S S1 R R1) (h2 : ∀ b, b ≠ 7 → S1' b = S1 b) (h3 : y_lf S1' S2) : I_tel S2 := by
  refine ⟨fun i hi => ?_, ?_⟩
  · rw [h3.1 22 (by decide) (by omega), h3.1 64 (by decide) (by omega), h2 22 (by decide), h2 64 (by decide), h1.2.2.2.1 i (by omega), h1.1 64 (by decide) (by decide) (by omega) (by decide)]
    exact h.1 i hi
  · rw [h3.1 22 (by decide) (by omega), h3.2 16 (by decide) (by decide) (by decide), h2 22 (by decide), h2 52 (by decide), h1.2.2.2.1 3 (by omega), h1.1 52 (by decide) (by decide) (by omega) (by decide)]
    exact h.2
theorem z_no_c {T : Nat → Nat → Int32} {a : Nat} {k : Int32} (h : S a = T a) : z_no a S k a = z_no a T k a := by
  unfold z_no
  funext q
  rw [z_upsE, z_upsE, if_pos rfl, if_pos rfl, h]
theorem y_bi (v : Bool) (X : z_H) : (if y_b v = (0 : Int32) then some ((0 : Int32), X) else some ((1 : Int32), X)) = some (y_b v, X) := by cases v <;> rfl
theorem S_lets (h_I_ref : I_ref S) (hD : I_dir S) (hcov : I_cov S) (hsaf : I_saf S) (hstr : I_str S) (hlet : I_let S) (htel : I_tel S) (J : J_mov ms ad Dh S R nx) (H : J_hit ms S) (Jc : J_cam cs ca Dh S R nx) (Jt : J_txt tx Dh S R nx) (hkk : kk < 90000) (Ed : J_ed kk ms S) (x : Int32) : z_R3 (fun h => z_cI 63 100 [.inr (.inr (some 6)), .inl x] h) (fun h => z_cI 11 181 [.inr (.inr (some 52)), .inl x] h) L Dh S R nx sl (J_ltd kk ms Dh S R nx sl) := by
  by_cases d1 : x < 0 ∨ 6 ≤ x
  · have ne : ∀ b, b ≠ 7 → b ≠ 86 → z_no 86 (z_no 7 S (-1)) (-1) b = S b := fun b q1 q2 => by rw [z_no_ne q2, z_no_ne q1]
    refine z_R3_no z_code1 h_I_ref ?_ ?_ ⟨rfl, rfl, rfl, z_no_ref h_I_ref z_code1, I_tel_fr htel ⟨rfl, rfl, rfl⟩, J_hit_no H, J_ed_fr Ed rfl rfl rfl, fun b hb hm => ?_, fun _ _ _ _ => rfl, fun _ _ _ => rfl, fun _ _ _ _ _ => rfl, fun b hb _ => ⟨ne b (by omega) (by omega), rfl⟩, fun b hb => ⟨by rw [ne b (by omega) (by omega)], rfl⟩, fun _ _ => rfl⟩
    · show z_cI 63 100 _ _ = _
      rw [E100]
      simp only [o_6, z_bs, M122 z_code1]
      by_cases c0 : x < 0
      · rw [if_pos c0]
      · rw [if_neg c0, if_neg (Int32.not_lt.mpr (d1.resolve_left c0))]
    · show z_cI 11 181 _ _ = _
      rw [E181]
      simp only [o_52, z_bs, M131 z_code1, z_le56]
      by_cases c0 : x < 0
      · rw [if_pos c0]
      · rw [if_neg c0, if_neg (fun q => q (d1.resolve_left c0))]
    · have hm := of_decide_eq_false hm
      exact ne b (fun q => hm (by rw [q]; decide)) (fun q => hm (by rw [q]; decide))
  · obtain ⟨c, hc, rfl⟩ := z_plc (n := 6) (by omega) (fun q => d1 (Or.inl q)) (fun q => d1 (Or.inr q))
    obtain ⟨v, S1, R1, e1, e2, e3, e4⟩ := y_let (L := L) (sl := sl) hc hD hcov hsaf hstr hlet htel J H Jc Jt hkk Ed
    obtain ⟨S2, g1, g2, g3⟩ := e4 S1 (fun _ _ _ => rfl)
    refine ⟨y_b v, Dh, S1, S2, R1, nx, sl, ?_, ?_, y_ltd (I_tel_l htel e2 (fun _ _ => rfl) g2) (I_ref_fr h_I_ref ⟨?_, ?_⟩) e2 (fun _ _ _ => rfl) g2 (fun _ _ _ => rfl) (fun _ _ => rfl) e3 g3⟩
    · show z_cI 63 100 _ _ = _
      rw [E100, if_neg (fun q => d1 (Or.inl q)), if_pos (Int32.not_le.mp (fun q => d1 (Or.inr q)))]
      simp only [g_6_3, g_6_1, g_6_2, o_18, z_bs, e1]
      exact y_bi v _
    · show z_cI 11 181 _ _ = _
      rw [E181, if_neg (fun q => d1 (Or.inl q)), if_pos (show nI c ≤ (5 : Int32) from nI_le (b := 5) (by omega) (by decide))]
      simp only [o_52, z_bs, g1]
      exact y_bi v _
    · rw [g2.1 7 (by decide) (by omega), e2.1 7 (by decide) (by decide) (by omega) (by decide)]
    · rw [g2.1 86 (by decide) (by omega), e2.1 86 (by decide) (by decide) (by omega) (by decide)]
theorem S_take (h_I_ref : I_ref S) (hD : I_dir S) (hcov : I_cov S) (hsaf : I_saf S) (hstr : I_str S) (hlet : I_let S) (htel : I_tel S) (J : J_mov ms ad Dh S R nx) (H : J_hit ms S) (Jc : J_cam cs ca Dh S R nx) (Jt : J_txt tx Dh S R nx) (hkk : kk < 90000) (Ed : J_ed kk ms S) : z_R3 (fun h => z_cI 63 101 [.inr (.inr (some 6))] h) (fun h => z_cI 11 182 [.inr (.inr (some 52))] h) L Dh S R nx sl (J_ltd kk ms Dh S R nx sl) := by
  obtain ⟨v, S1, R1, e1, e2, e3, e4⟩ := y_let (L := L) (sl := sl) (c := 0) (by decide) hD hcov hsaf hstr hlet htel J H Jc Jt hkk Ed
  have e1' : z_cI 62 40 [.inr (.inr (some 18)), .inl (0 : Int32), .inr (.inr (some 8)), .inr (.inr (some 16))] (z_mk L Dh S R nx sl) = some (y_b v, z_mk L Dh S1 R1 nx sl) := e1
  cases v with
  | false =>
    obtain ⟨S2, g1, g2, g3⟩ := e4 (z_no 7 S1 (-3)) (fun b h7 _ => z_no_ne h7)
    have g1' : z_cI 10 180 [.inr (.inr (some 52)), .inl (0 : Int32)] (z_mk L Dh (z_no 7 S1 (-3)) R1 nx sl) = some (y_b false, z_mk L Dh S2 R1 nx sl) := g1
    have t2 : I_tel S2 := I_tel_l htel e2 (fun b h7 => z_no_ne h7) g2
    refine ⟨-3, Dh, z_no 7 S1 (-3), z_no 86 S2 (-3), R1, nx, sl, ?_, ?_, y_ltd (I_tel_fr t2 ⟨rfl, rfl, rfl⟩) ?_ e2 (fun b h7 _ => z_no_ne h7) g2 (fun b h86 _ => z_no_ne h86) (fun q _ => rfl) e3 g3⟩
    · show z_cI 63 101 _ _ = _
      rw [E101]
      simp only [g_6_3, g_6_1, g_6_2, o_18, z_bs, e1', o_6, M122 z_code3]
      rw [if_neg (show ¬ ¬ y_b false = 0 from fun q => q rfl)]
    · show z_cI 11 182 _ _ = _
      rw [E182]
      simp only [o_52, z_bs, g1', M131 z_code3]
      rw [if_neg (show ¬ ¬ y_b false = 0 from fun q => q rfl)]
    · have hr1 : I_ref S1 := I_ref_fr h_I_ref ⟨e2.1 7 (by decide) (by decide) (by omega) (by decide), e2.1 86 (by decide) (by decide) (by omega) (by decide)⟩
      have hx := z_no_ref hr1 z_code3
      intro i hi
      have := hx i hi
      rw [show z_no 86 S2 (-3) 7 = S2 7 from z_no_ne (by decide), g2.1 7 (by decide) (by omega)]
      rw [show z_no 86 (z_no 7 S1 (-3)) (-3) 7 = z_no 7 S1 (-3) 7 from z_no_ne (by decide)] at this
      rw [this, z_no_c (S := S2) (T := z_no 7 S1 (-3)) (g2.1 86 (by decide) (by omega))]
  | true =>
    obtain ⟨S2, g1, g2, g3⟩ := e4 (z_ups S1 22 3 (S1 22 3 + 1)) (fun b _ h22 => z_ups_ne h22)
    have g1' : z_cI 10 180 [.inr (.inr (some 52)), .inl (0 : Int32)] (z_mk L Dh (z_ups S1 22 3 (S1 22 3 + 1)) R1 nx sl) = some (y_b true, z_mk L Dh S2 R1 nx sl) := g1
    have h223 : S1 22 3 = S 52 16 := by rw [e2.2.2.2.1 3 (by omega)]; exact htel.2
    have h216 : S2 52 16 = S 52 16 := by rw [g2.2 16 (by decide) (by decide) (by decide), z_ups_ne (by decide), e2.1 52 (by decide) (by decide) (by omega) (by decide)]
    refine ⟨S 52 16 + 1, Dh, z_ups S1 22 3 (S1 22 3 + 1), z_ups S2 52 16 (S2 52 16 + 1), R1, nx, sl, ?_, ?_, y_ltd ?_ ?_ e2 (fun b _ h22 => z_ups_ne h22) g2 (fun b _ h52 => z_ups_ne h52) (fun q hq => z_upsK hq) e3 g3⟩
    · show z_cI 63 101 _ _ = _
      rw [E101]
      simp only [g_6_3, g_6_1, g_6_2, o_18, z_bs, e1']
      rw [if_pos (show ¬ y_b true = 0 by decide)]
      simp only [g_18_3, g_6_3, z_bs, l_22 (i := 3) rfl, s_22 (i := 3) rfl, show (3 : Int32).toNatClampNeg = 3 from rfl, z_upsS, h223]
    · show z_cI 11 182 _ _ = _
      rw [E182]
      simp only [o_52, z_bs, g1']
      rw [if_pos (show ¬ y_b true = 0 by decide)]
      simp only [g_52_16, z_bs, p_52_16, z_upsS, h216]
    · refine ⟨fun i hi => ?_, ?_⟩
      · rw [z_ups_ne (by decide), z_ups_ne (by decide), g2.1 22 (by decide) (by omega), g2.1 64 (by decide) (by omega), z_upsK (by omega), z_ups_ne (by decide), e2.2.2.2.1 i (by omega), e2.1 64 (by decide) (by decide) (by omega) (by decide)]
        exact htel.1 i hi
      · rw [z_ups_ne (by decide), g2.1 22 (by decide) (by omega), z_upsS, z_upsS, h223, h216]
    · exact I_ref_fr h_I_ref ⟨by rw [z_ups_ne (by decide), g2.1 7 (by decide) (by omega), z_ups_ne (by decide), e2.1 7 (by decide) (by decide) (by omega) (by decide)], by rw [z_ups_ne (by decide), g2.1 86 (by decide) (by omega), z_ups_ne (by decide), e2.1 86 (by decide) (by decide) (by omega) (by decide)]⟩
end ZTN
