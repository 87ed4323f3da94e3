section ZSU
variable {L : Nat} {Dh : Nat → z_Sh} {S : Nat → Nat → Int32} {R : Nat → Nat → Option Nat} {nx sl : Nat}
variable {cs : List y_Cm} {ca : Nat → Nat} {a : Nat} {c : y_Cm}
/-! quarrels -/
def y_qr (C : Nat → Bool) (p q : y_Cm) : Bool := decide (p.2.2.2.2.1 ≤ q.2.2.2.2.2 ∧ q.2.2.2.2.1 ≤ p.2.2.2.2.2) && (y_vw C p q.1 || y_vw C q p.1)
theorem M5 (hD : I_dir S) {b : Nat} {d : y_Cm} (hK : y_Kb Dh S a c) (hk : y_kok c) (hK2 : y_Kb Dh S b d) (hk2 : y_kok d) : z_cI 5 5 [.inr (.inr (some a)), .inr (.inr (some b)), .inr (.inr (some 9))] (z_mk L Dh S R nx sl) = some (if y_qr (y_set (S 9)) c d = true then 1 else 0, z_mk L Dh S R nx sl) := by
  have h1 := hk.2.2.2.2.2.1
  have h2 := hk.2.2.2.2.2.2
  have h3 := hk2.2.2.2.2.2.1
  have h4 := hk2.2.2.2.2.2.2
  rw [E5]
  simp only [k_g4 hK, k_g4 hK2, k_g5 hK, k_g5 hK2, z_bs, M229, M230]
  rw [y_max (by omega) (by omega), y_min (by omega) (by omega)]
  unfold y_qr
  by_cases q : c.2.2.2.2.1 ≤ d.2.2.2.2.2 ∧ d.2.2.2.2.1 ≤ c.2.2.2.2.2
  · rw [if_pos (nI_le (by omega) (by omega)), decide_eq_true q, Bool.true_and]
    simp only [k_g0 hK, k_g0 hK2, k_o hK, k_o hK2, z_bs, M2 hD hK hk hk2.1, M2 hD hK2 hk2 hk.1]
    by_cases q1 : y_vw (y_set (S 9)) c d.1 = true
    · rw [if_pos q1, if_pos (by decide), q1, Bool.true_or, if_pos rfl]
    · rw [if_neg q1, if_neg (fun w => w rfl), Bool.eq_false_iff.mpr q1, Bool.false_or]
      by_cases q2 : y_vw (y_set (S 9)) d c.1 = true
      · rw [if_pos q2, if_neg (by decide)]
      · rw [if_neg q2, if_pos rfl]
  · rw [if_neg (nI_ge (by omega) (by omega)), decide_eq_false q, Bool.false_and, if_neg (by decide)]
theorem M166 {C : Nat → Bool} {i j : Nat} {d : y_Cm} (hi : i < 8) (hj : j < 8) (hC : y_bo (S 53) C) (hM : y_Km S i c) (hk : y_kok c) (hM2 : y_Km S j d) (hk2 : y_kok d) : z_cI 4 166 [.inr (.inr (some 52)), .inl (nI i), .inl (nI j)] (z_mk L Dh S R nx sl) = some (if y_qr C c d = true then 1 else 0, z_mk L Dh S R nx sl) := by
  have h1 := hk.2.2.2.2.2.1
  have h2 := hk.2.2.2.2.2.2
  have h3 := hk2.2.2.2.2.2.1
  have h4 := hk2.2.2.2.2.2.2
  rw [E166]
  simp only [g_52_13, k_l4 hi hM, k_l5 hj hM2, k_l4 hj hM2, k_l5 hi hM, k_l0 hi hM, k_l0 hj hM2, o_52, z_bs, M164 hi hC hM hk hk2.1, M164 hj hC hM2 hk2 hk.1]
  unfold y_qr
  by_cases q : c.2.2.2.2.1 ≤ d.2.2.2.2.2
  · rw [if_neg (Int32.not_lt.mpr (nI_le q (by omega)))]
    by_cases q0 : d.2.2.2.2.1 ≤ c.2.2.2.2.2
    · rw [if_pos (nI_le q0 (by omega)), decide_eq_true ⟨q, q0⟩, Bool.true_and]
      by_cases q1 : y_vw C c d.1 = true
      · rw [if_pos q1, if_pos (by decide), q1, Bool.true_or, if_pos rfl]
      · rw [if_neg q1, if_neg (fun w => w rfl), Bool.eq_false_iff.mpr q1, Bool.false_or]
        by_cases q2 : y_vw C d c.1 = true
        · rw [if_pos q2, if_neg (by decide)]
        · rw [if_neg q2, if_pos rfl]
    · rw [if_neg (nI_ge (by omega) (by omega)), decide_eq_false (fun w => q0 w.2), Bool.false_and, if_neg (by decide)]
  · rw [if_pos (nI_lt (by omega) (by omega)), decide_eq_false (fun w => q w.1), Bool.false_and, if_neg (by decide)]
/-- the quarrels in their order -/
def y_Q (C : Nat → Bool) (cs : List y_Cm) (a b : Nat) : Bool := match cs[a]?, cs[b]? with
  | some p, some q => y_qr C p q
  | _, _ => false
theorem y_Q_eq {C : Nat → Bool} {i j : Nat} (hi : i < cs.length) (hj : j < cs.length) : y_Q C cs i j = y_qr C cs[i] cs[j] := by
  unfold y_Q
  rw [List.getElem?_eq_getElem hi, List.getElem?_eq_getElem hj]
def y_q1 (q : Nat → Bool) (a : Nat) : Nat → Nat → List (Nat × Nat)
  | 0, _ => []
  | j + 1, b => (if q b = true then [(a, b)] else []) ++ y_q1 q a j (b + 1)
def y_q2 (q : Nat → Nat → Bool) (n : Nat) : Nat → Nat → List (Nat × Nat)
  | 0, _ => []
  | j + 1, a => y_q1 (q a) a (n - (a + 1)) (a + 1) ++ y_q2 q n j (a + 1)
theorem y_q1_s (q : Nat → Bool) (a j b : Nat) : y_q1 q a (j + 1) b = (if q b = true then [(a, b)] else []) ++ y_q1 q a j (b + 1) := rfl
theorem y_q2_s (q : Nat → Nat → Bool) (n j a : Nat) : y_q2 q n (j + 1) a = y_q1 (q a) a (n - (a + 1)) (a + 1) ++ y_q2 q n j (a + 1) := rfl
theorem y_q1_len (q : Nat → Bool) (a : Nat) : ∀ j b, (y_q1 q a j b).length ≤ j
  | 0, _ => by simp [y_q1]
  | j + 1, b => by
    have := y_q1_len q a j (b + 1)
    rw [y_q1_s, List.length_append]
    by_cases c : q b = true
    · rw [if_pos c]; simp; omega
    · rw [if_neg c]; simp; omega
theorem y_q2_len (q : Nat → Nat → Bool) (n : Nat) : ∀ j a, (y_q2 q n j a).length ≤ j * n
  | 0, _ => by simp [y_q2]
  | j + 1, a => by
    have h1 := y_q2_len q n j (a + 1)
    have h2 := y_q1_len (q a) a (n - (a + 1)) (a + 1)
    rw [y_q2_s, List.length_append, Nat.add_mul]
    omega
def y_hd (S : Nat → Nat → Int32) (l : List (Nat × Nat)) : Prop := ∀ p r, l = p :: r → S 16 2 = nI p.1 ∧ S 16 3 = nI p.2
def y_kf (S S' : Nat → Nat → Int32) : Prop := (∀ b, b ≠ 16 → S' b = S b) ∧ ∀ k, k ≠ 2 → k ≠ 3 → S' 16 k = S 16 k
theorem y_kf_id : y_kf S S := ⟨fun _ _ => rfl, fun _ _ _ => rfl⟩
theorem y_kf_tr {S1 S2 : Nat → Nat → Int32} (h1 : y_kf S S1) (h2 : y_kf S1 S2) : y_kf S S2 := ⟨fun b x => (h2.1 b x).trans (h1.1 b x), fun k x y => (h2.2 k x y).trans (h1.2 k x y)⟩
theorem J_cam_kf {S' : Nat → Nat → Int32} (J : J_cam cs ca Dh S R nx) (e : y_kf S S') : J_cam cs ca Dh S' R nx := J_cam_fr J (e.2 1 (by decide) (by decide)) (by rw [e.1 52 (by decide)]) (e.1 63 (by decide)) rfl (Nat.le_refl _) (fun b hb _ _ => ⟨rfl, e.1 b (by omega)⟩)
theorem I_dir_kf {S' : Nat → Nat → Int32} (h : I_dir S) (e : y_kf S S') : I_dir S' := I_dir_fr h ⟨e.1 1 (by decide), e.1 2 (by decide)⟩
theorem M15_17 {C : Nat → Bool} {i : Nat} (hi : i < cs.length) : ∀ (j b : Nat) (S : Nat → Nat → Int32) (pre : List (Nat × Nat)), i < b → b + j = cs.length → J_cam cs ca Dh S R nx → I_dir S → y_set (S 9) = C → pre.length + j ≤ 1000 → y_hd S pre → ∃ S', L15_17 (some 16) (some 9) (nI pre.length) (nI i) (nI b) (z_mk L Dh S R nx sl) = L15_4 (some 16) (some 9) (nI (pre ++ y_q1 (y_Q C cs i) i j b).length) (nI (i + 1)) (z_mk L Dh S' R nx sl) ∧ y_hd S' (pre ++ y_q1 (y_Q C cs i) i j b) ∧ y_kf S S' := by
  intro j
  induction j with
  | zero =>
    intro b S pre hib hb J hD hC hp hh
    have h8 := J.1
    refine ⟨S, ?_, by rw [show y_q1 (y_Q C cs i) i 0 b = [] from rfl, List.append_nil]; exact hh, y_kf_id⟩
    rw [E15_17, show y_q1 (y_Q C cs i) i 0 b = [] from rfl, List.append_nil]
    simp only [g_16_1, z_bs, J.2.1]
    rw [if_pos (nI_le (by omega) (by omega)), nI_1]
  | succ j ih =>
    intro b S pre hib hb J hD hC hp hh
    have h8 := J.1
    have hbl : b < cs.length := by omega
    obtain ⟨a1, a2, a3, a4, a5⟩ := J.2.2.2 i hi
    obtain ⟨b1, b2, b3, b4, b5⟩ := J.2.2.2 b hbl
    have hM := M5 (L := L) (R := R) (nx := nx) (sl := sl) hD a4 a3 b4 b3
    rw [hC, ← y_Q_eq hi hbl] at hM
    rw [E15_17, y_q1_s]
    simp only [g_16_1, g_16_0, z_bs, J.2.1]
    rw [if_neg (nI_ge hbl (by omega)), l_17 (z_in_nI (show i < 8 by omega) (by decide)), l_17 (z_in_nI (show b < 8 by omega) (by decide)), z_cl (show i < 2147483648 by omega), z_cl (show b < 2147483648 by omega), a1, b1]
    simp only [z_bs, k_o a4, hM, nI_1]
    by_cases q : y_Q C cs i b = true
    · rw [if_pos q, if_neg (by decide), if_pos q, ← List.append_assoc]
      have hp2 : pre.length + 1 = (pre ++ [(i, b)]).length := by rw [List.length_append]; rfl
      by_cases q0 : pre = []
      · subst q0
        rw [if_neg (fun w => w rfl)]
        simp only [p_16_2, p_16_3, z_bs]
        have kf : y_kf S (z_ups (z_ups S 16 2 (nI i)) 16 3 (nI b)) := ⟨fun b hb => by rw [z_ups_ne hb, z_ups_ne hb], fun k x y => by rw [z_upsK y, z_upsK x]⟩
        obtain ⟨S', e1, e2, e3⟩ := ih (b + 1) _ ([] ++ [(i, b)]) (by omega) (by omega) (J_cam_kf J kf) (I_dir_kf hD kf) (by rw [kf.1 9 (by decide)]; exact hC) (by show 1 + j ≤ 1000; omega) (fun p r hpr => by
          have : p = (i, b) := (List.cons.inj hpr).1.symm
          rw [this]
          exact ⟨by rw [z_upsK (by decide), z_upsS], by rw [z_upsS]⟩)
        exact ⟨S', e1, e2, y_kf_tr kf e3⟩
      · have hne : pre.length ≠ 0 := fun w => q0 (List.length_eq_zero_iff.mp w)
        rw [if_pos (nI_ne0 (by omega) (by omega)), hp2]
        exact ih (b + 1) S (pre ++ [(i, b)]) (by omega) (by omega) J hD hC (by rw [← hp2]; omega) (fun p r hpr => by
          cases pre with
          | nil => exact absurd rfl q0
          | cons p0 r0 =>
            have : p = p0 := (List.cons.inj hpr).1.symm
            rw [this]
            exact hh p0 r0 rfl)
    · rw [if_neg q, if_pos rfl, if_neg q, List.nil_append]
      exact ih (b + 1) S pre (by omega) (by omega) J hD hC (by omega) hh

theorem M15_4 {C : Nat → Bool} : ∀ (j i : Nat) (S : Nat → Nat → Int32) (pre : List (Nat × Nat)), i + j = cs.length → J_cam cs ca Dh S R nx → I_dir S → y_set (S 9) = C → pre.length ≤ 8 * i → y_hd S pre → ∃ S', L15_4 (some 16) (some 9) (nI pre.length) (nI i) (z_mk L Dh S R nx sl) = some (nI (pre ++ y_q2 (y_Q C cs) cs.length j i).length, z_mk L Dh S' R nx sl) ∧ y_hd S' (pre ++ y_q2 (y_Q C cs) cs.length j i) ∧ y_kf S S' := by
  intro j
  induction j with
  | zero =>
    intro i S pre hi J hD hC hp hh
    have h8 := J.1
    refine ⟨S, ?_, by rw [show y_q2 (y_Q C cs) cs.length 0 i = [] from rfl, List.append_nil]; exact hh, y_kf_id⟩
    rw [E15_4, show y_q2 (y_Q C cs) cs.length 0 i = [] from rfl, List.append_nil]
    simp only [g_16_1, z_bs, J.2.1]
    rw [if_pos (nI_le (by omega) (by omega))]
  | succ j ih =>
    intro i S pre hi J hD hC hp hh
    have h8 := J.1
    have hil : i < cs.length := by omega
    obtain ⟨S1, e1, e2, e3⟩ := M15_17 (L := L) (Dh := Dh) (R := R) (nx := nx) (sl := sl) hil (cs.length - (i + 1)) (i + 1) S pre (by omega) (by omega) J hD hC (by omega) hh
    have hl := y_q1_len (y_Q C cs i) i (cs.length - (i + 1)) (i + 1)
    obtain ⟨S2, f1, f2, f3⟩ := ih (i + 1) S1 _ (by omega) (J_cam_kf J e3) (I_dir_kf hD e3) (by rw [e3.1 9 (by decide)]; exact hC) (by rw [List.length_append]; omega) e2
    refine ⟨S2, ?_, by rw [y_q2_s, ← List.append_assoc]; exact f2, y_kf_tr e3 f3⟩
    rw [E15_4]
    simp only [g_16_1, z_bs, J.2.1]
    rw [if_neg (nI_ge hil (by omega)), nI_1, e1, f1, y_q2_s, ← List.append_assoc]
def y_QL (C : Nat → Bool) (cs : List y_Cm) : List (Nat × Nat) := y_q2 (y_Q C cs) cs.length cs.length 0
theorem y_QL_len (C : Nat → Bool) (h : cs.length ≤ 8) : (y_QL C cs).length ≤ 64 := by
  have h1 := y_q2_len (y_Q C cs) cs.length cs.length 0
  have h2 := Nat.mul_le_mul h h
  unfold y_QL
  omega
theorem M15 (J : J_cam cs ca Dh S R nx) (hD : I_dir S) : ∃ S', z_cI 6 15 [.inr (.inr (some 16)), .inr (.inr (some 9))] (z_mk L Dh S R nx sl) = some (nI (y_QL (y_set (S 9)) cs).length, z_mk L Dh S' R nx sl) ∧ y_hd S' (y_QL (y_set (S 9)) cs) ∧ y_kf S S' := by
  obtain ⟨S', e1, e2, e3⟩ := M15_4 (L := L) (Dh := Dh) (R := R) (nx := nx) (sl := sl) cs.length 0 S [] (by omega) J hD rfl (by simp) (fun p r h => by cases h)
  rw [List.nil_append] at e1 e2
  exact ⟨S', by rw [E15]; exact e1, e2, e3⟩
theorem M167_17z {C : Nat → Bool} (hC : y_bo (S 53) C) (J : J_cam cs ca Dh S R nx) {i : Nat} (hi : i < cs.length) : ∀ (j b n : Nat), i < b → b + j = cs.length → L167_17 (some 52) 0 (nI n) (nI i) (nI b) (z_mk L Dh S R nx sl) = L167_4 (some 52) 0 (nI (n + (y_q1 (y_Q C cs i) i j b).length)) (nI (i + 1)) (z_mk L Dh S R nx sl) := by
  have h8 := J.1
  intro j
  induction j with
  | zero =>
    intro b n hib hb
    rw [E167_17]
    simp only [g_52_12, z_bs, J.2.2.1]
    rw [if_pos (nI_le (by omega) (by omega)), nI_1]
    rfl
  | succ j ih =>
    intro b n hib hb
    have hbl : b < cs.length := by omega
    obtain ⟨a1, a2, a3, a4, a5⟩ := J.2.2.2 i hi
    obtain ⟨b1, b2, b3, b4, b5⟩ := J.2.2.2 b hbl
    have hM := M166 (L := L) (Dh := Dh) (R := R) (nx := nx) (sl := sl) (show i < 8 by omega) (show b < 8 by omega) hC a5 a3 b5 b3
    rw [← y_Q_eq hi hbl] at hM
    rw [E167_17, y_q1_s]
    simp only [g_52_12, z_bs, J.2.2.1]
    rw [if_neg (nI_ge hbl (by omega))]
    simp only [o_52, z_bs, hM, nI_1]
    by_cases q : y_Q C cs i b = true
    · rw [if_pos q, if_pos (by decide), if_pos (by decide), if_pos q, ih (b + 1) (n + 1) (by omega) (by omega), List.length_append, show n + 1 + (y_q1 (y_Q C cs i) i j (b + 1)).length = n + ([(i, b)].length + (y_q1 (y_Q C cs i) i j (b + 1)).length) by show _ = n + (1 + _); omega]
    · rw [if_neg q, if_neg (fun w => w rfl), if_neg q, List.nil_append]
      exact ih (b + 1) n (by omega) (by omega)
theorem M167_4z {C : Nat → Bool} (hC : y_bo (S 53) C) (J : J_cam cs ca Dh S R nx) : ∀ (j i n : Nat), i + j = cs.length → L167_4 (some 52) 0 (nI n) (nI i) (z_mk L Dh S R nx sl) = some (nI (n + (y_q2 (y_Q C cs) cs.length j i).length), z_mk L Dh S R nx sl) := by
  have h8 := J.1
  intro j
  induction j with
  | zero =>
    intro i n hi
    rw [E167_4]
    simp only [g_52_12, z_bs, J.2.2.1]
    rw [if_pos (nI_le (by omega) (by omega)), if_pos (by decide)]
    rfl
  | succ j ih =>
    intro i n hi
    have hil : i < cs.length := by omega
    rw [E167_4]
    simp only [g_52_12, z_bs, J.2.2.1]
    rw [if_neg (nI_ge hil (by omega)), nI_1, M167_17z hC J hil (cs.length - (i + 1)) (i + 1) n (by omega) (by omega), ih (i + 1) _ (by omega), y_q2_s, List.length_append, Nat.add_assoc]
def y_sel (w : Nat) : List (Nat × Nat) → Int32
  | [] => -9
  | p :: _ => if w = 1 then nI p.1 else nI p.2
theorem M167_17w {C : Nat → Bool} (hC : y_bo (S 53) C) (J : J_cam cs ca Dh S R nx) {i w : Nat} (hw : w = 1 ∨ w = 2) {v : Int32} (hi : i < cs.length) : ∀ (j b : Nat), i < b → b + j = cs.length → L167_17 (some 52) (nI w) v (nI i) (nI b) (z_mk L Dh S R nx sl) = match y_q1 (y_Q C cs i) i j b with
    | [] => L167_4 (some 52) (nI w) v (nI (i + 1)) (z_mk L Dh S R nx sl)
    | p :: r => some (y_sel w (p :: r), z_mk L Dh S R nx sl) := by
  have h8 := J.1
  intro j
  induction j with
  | zero =>
    intro b hib hb
    rw [E167_17]
    simp only [g_52_12, z_bs, J.2.2.1]
    rw [if_pos (nI_le (by omega) (by omega)), nI_1]
    rfl
  | succ j ih =>
    intro b hib hb
    have hbl : b < cs.length := by omega
    obtain ⟨a1, a2, a3, a4, a5⟩ := J.2.2.2 i hi
    obtain ⟨b1, b2, b3, b4, b5⟩ := J.2.2.2 b hbl
    have hM := M166 (L := L) (Dh := Dh) (R := R) (nx := nx) (sl := sl) (show i < 8 by omega) (show b < 8 by omega) hC a5 a3 b5 b3
    rw [← y_Q_eq hi hbl] at hM
    rw [E167_17, y_q1_s]
    simp only [g_52_12, z_bs, J.2.2.1]
    rw [if_neg (nI_ge hbl (by omega))]
    simp only [o_52, z_bs, hM, nI_1]
    by_cases q : y_Q C cs i b = true
    · rw [if_pos q, if_pos (by decide), if_pos q]
      rcases hw with rfl | rfl
      · rw [if_neg (by decide), if_neg (fun w => w rfl)]; rfl
      · rw [if_neg (by decide), if_pos (by decide)]; rfl
    · rw [if_neg q, if_neg (fun w => w rfl), if_neg q, List.nil_append]
      exact ih (b + 1) (by omega) (by omega)
theorem M167_4w {C : Nat → Bool} (hC : y_bo (S 53) C) (J : J_cam cs ca Dh S R nx) {w : Nat} (hw : w = 1 ∨ w = 2) {v : Int32} : ∀ (j i : Nat), i + j = cs.length → L167_4 (some 52) (nI w) v (nI i) (z_mk L Dh S R nx sl) = some (y_sel w (y_q2 (y_Q C cs) cs.length j i), z_mk L Dh S R nx sl) := by
  have h8 := J.1
  intro j
  induction j with
  | zero =>
    intro i hi
    rw [E167_4]
    simp only [g_52_12, z_bs, J.2.2.1]
    rw [if_pos (nI_le (by omega) (by omega))]
    rcases hw with rfl | rfl
    · rw [if_neg (by decide)]; rfl
    · rw [if_neg (by decide)]; rfl
  | succ j ih =>
    intro i hi
    have hil : i < cs.length := by omega
    rw [E167_4]
    simp only [g_52_12, z_bs, J.2.2.1]
    rw [if_neg (nI_ge hil (by omega)), nI_1, M167_17w hC J hw hil (cs.length - (i + 1)) (i + 1) (by omega) (by omega), y_q2_s]
    cases hq : y_q1 (y_Q C cs i) i (cs.length - (i + 1)) (i + 1) with
    | nil => exact ih (i + 1) (by omega)
    | cons p r => rfl
theorem M167z {C : Nat → Bool} (hC : y_bo (S 53) C) (J : J_cam cs ca Dh S R nx) : z_cI 5 167 [.inr (.inr (some 52)), .inl 0] (z_mk L Dh S R nx sl) = some (nI (y_QL C cs).length, z_mk L Dh S R nx sl) := by
  have h := M167_4z (L := L) (sl := sl) hC J cs.length 0 0 (by omega)
  rw [Nat.zero_add] at h
  rw [E167]
  exact h
theorem M167w {C : Nat → Bool} (hC : y_bo (S 53) C) (J : J_cam cs ca Dh S R nx) {w : Nat} (hw : w = 1 ∨ w = 2) : z_cI 5 167 [.inr (.inr (some 52)), .inl (nI w)] (z_mk L Dh S R nx sl) = some (y_sel w (y_QL C cs), z_mk L Dh S R nx sl) := by
  have h := M167_4w (L := L) (sl := sl) hC J hw (v := 0) cs.length 0 (by omega)
  rw [E167]
  exact h
def A_qua (a : Nat) : Bool := decide (a ∈ [7, 16, 86])
theorem S_quarrels (h_I_ref : I_ref S) (hD : I_dir S) (hcov : I_cov S) (J : J_cam cs ca Dh S R nx) (x : Int32) : z_R2 (fun h => z_cI 7 95 [.inr (.inr (some 6)), .inl x] h) (fun h => z_cI 6 168 [.inr (.inr (some 52)), .inl x] h) L Dh S R nx sl A_qua K_0 (fun S' => I_ref S' ∧ ∀ k, k ≠ 2 → k ≠ 3 → S' 16 k = S 16 k) := by
  have h8 := J.1
  by_cases d1 : x < 0 ∨ 2 < x
  · refine z_R2_no z_code2 rfl rfl h_I_ref ?_ ?_ ⟨z_no_ref h_I_ref z_code2, fun _ _ _ => rfl⟩
    · show z_cI 7 95 _ _ = _
      rw [E95]
      simp only [o_6, z_bs, M122 z_code2]
      rcases d1 with c | c
      · rw [if_pos c]
      · by_cases c0 : x < 0
        · rw [if_pos c0]
        · rw [if_neg c0, if_neg (Int32.not_le.mpr c)]
    · show z_cI 6 168 _ _ = _
      rw [E168]
      simp only [o_52, z_bs, M131 z_code2]
      rcases d1 with c | c
      · rw [if_pos c]
      · by_cases c0 : x < 0
        · rw [if_pos c0]
        · rw [if_neg c0, if_neg (Int32.not_le.mpr c)]
  · have d2 : ¬ x < 0 := fun q => d1 (Or.inl q)
    have d3 : x ≤ 2 := Int32.not_lt.mp (fun q => d1 (Or.inr q))
    obtain ⟨w, hw, rfl⟩ := nI_of2 (n := 2) rfl d2 d3
    obtain ⟨S1, e1, e2, e3⟩ := M15 (L := L) (Dh := Dh) (R := R) (nx := nx) (sl := sl) J hD
    have J1 := J_cam_kf J e3
    have C1 : y_bo (S1 53) (y_set (S 9)) := by rw [e3.1 53 (by decide)]; exact y_set_b hcov
    have hQ := y_QL_len (y_set (S 9)) h8
    refine ⟨if w = 0 then nI (y_QL (y_set (S 9)) cs).length else y_sel w (y_QL (y_set (S 9)) cs), S1, S1, ?_, ?_, ⟨fun b hb h52 => ?_, fun k hk => ?_⟩, ?_, e3.2⟩
    · show z_cI 7 95 _ _ = _
      rw [E95, if_neg d2, if_pos d3]
      simp only [g_6_2, g_6_1, g_8_0, o_16, z_bs, e1, g_16_2, g_16_3]
      rcases (show w = 0 ∨ w = 1 ∨ w = 2 by omega) with rfl | rfl | rfl
      · rw [if_neg (fun q => q rfl)]; rfl
      · rw [if_pos (by decide), if_neg (show ¬ (1 : Nat) = 0 by decide)]
        cases hq : y_QL (y_set (S 9)) cs with
        | nil => rw [if_neg (fun q => q rfl)]; rfl
        | cons p r =>
          rw [if_pos (nI_ne0 (by rw [List.length_cons]; omega) (by rw [← hq]; omega)), if_neg (fun q => q rfl), (e2 p r hq).1]; rfl
      · rw [if_pos (by decide), if_neg (show ¬ (2 : Nat) = 0 by decide)]
        cases hq : y_QL (y_set (S 9)) cs with
        | nil => rw [if_neg (fun q => q rfl)]; rfl
        | cons p r =>
          rw [if_pos (nI_ne0 (by rw [List.length_cons]; omega) (by rw [← hq]; omega)), if_pos (by decide), (e2 p r hq).2]; rfl
    · show z_cI 6 168 _ _ = _
      rw [E168, if_neg d2, if_pos d3]
      rcases (show w = 0 ∨ w = 1 ∨ w = 2 by omega) with rfl | rfl | rfl
      · have h : z_cI 5 167 [.inr (.inr (some 52)), .inl (nI 0)] (z_mk L Dh S1 R nx sl) = _ := M167z C1 J1
        simp only [o_52, z_bs, h]
        rfl
      · simp only [o_52, z_bs, M167w C1 J1 (Or.inl rfl)]; rfl
      · simp only [o_52, z_bs, M167w C1 J1 (Or.inr rfl)]; rfl
    · have hb := of_decide_eq_false hb
      exact e3.1 b (fun q => hb (by rw [q]; decide))
    · rw [e3.1 52 (by decide)]
    · exact I_ref_fr h_I_ref ⟨e3.1 7 (by decide), e3.1 86 (by decide)⟩

end ZSU
