section ZTC2
variable {L : Nat} {Dh : Nat → z_Sh} {S : Nat → Nat → Int32} {R : Nat → Nat → Option Nat} {nx sl : Nat}
variable {o β : Nat} {f : Nat → Int32} {n : Nat} {val : Nat → Int32}
/-- what the class answers for a test -/
def y_ot (L : Nat) (Dh : Nat → z_Sh) (S : Nat → Nat → Int32) (R : Nat → Nat → Option Nat) (nx sl o : Nat) (X : Option (Int32 × z_H)) (r : y_Rs Bool) : Prop := match r with
  | .inl p => ∃ q A, (q = 0 ∨ q = 1) ∧ X = some (q, z_mk L Dh (y_tc S o A (nI p)) R nx sl)
  | .inr x => X = some (if x.2 = true then 1 else 0, z_mk L Dh (y_tc S o (nI x.1) (-1)) R nx sl)
theorem M75 (X : y_Tx L Dh R nx sl o β) (B : y_Tb S o β f n val) {a : Nat} (ha : a ≤ n) : y_ot L Dh S R nx sl o (z_cI 6 75 [.inr (.inr (some o))] (z_mk L Dh (y_tc S o (nI a) (-1)) R nx sl)) (y_cpr f n val a) := by
  have h1 := M76 X B ha
  have hb := y_unt_b f n val a ha
  have hn60 := B.2.1
  have x1 := X.1
  unfold y_cpr
  rw [E75]
  simp only [x1, z_bs, h1]
  cases hu : y_unt f n val a with
  | inl p =>
    rw [hu] at hb
    obtain ⟨p1, p2⟩ := hb
    have a60 := fun c => M78f (S := S) X (show p < 1000 by omega) (A := nI p) (c := c)
    refine ⟨0, nI p, Or.inl rfl, ?_⟩
    simp only [z_bs, a60, z_e00, not_true, z_iF, z_iT]
    rw [E75_29]
    simp only [z_e00, not_true, z_iF, x1, z_bs, a60, z_iT]
    rw [E75_53]
    simp only [z_e00, not_true, z_iF, x1, z_bs, X.2.2.2.1, M79f X (show p < 1000 by omega), M76f X (show p < 1000 by omega), z_iT]
    rw [E75_92]
    simp only [z_e00, z_iT]
  | inr x =>
    rw [hu] at hb
    obtain ⟨q1, q2⟩ := hb
    have m78 := fun c => M78 X B (a := x.1) q2 (c := c)
    have m78b := fun c (h : x.1 < n) => M78 X B (a := x.1 + 1) h (c := c)
    simp only [z_bs, m78, x1]
    show y_ot L Dh S R nx sl o _ (if x.1 < n ∧ y_sg (f x.1) = true then (match y_unt f n val (x.1 + 1) with | .inl p => .inl p | .inr y => .inr (y.1, y_cmv (f x.1) x.2 y.2)) else .inl x.1)
    -- the second one, behind each sign
    have fin : ∀ (v2 v3 w : Int32) (F : Int32 → Int32), x.1 < n → ((v2 = 1 ∧ v3 = 0 ∧ w = 0 ∧ f x.1 = 60) ∨ (v2 = 0 ∧ v3 = 1 ∧ w = 0 ∧ f x.1 = 61) ∨ (v2 = 0 ∧ v3 = 0 ∧ w = 1 ∧ f x.1 = 62)) → y_ot L Dh S R nx sl o (L75_53 (some o) x.2 v2 v3 w (z_mk L Dh (y_tc S o (nI (x.1 + 1)) (-1)) R nx sl)) (match y_unt f n val (x.1 + 1) with | .inl p => .inl p | .inr y => .inr (y.1, y_cmv (f x.1) x.2 y.2)) := fun v2 v3 w _ hx hs => by
      have h2 := M76 X B (a := x.1 + 1) hx
      have e53 : L75_53 (some o) x.2 v2 v3 w (z_mk L Dh (y_tc S o (nI (x.1 + 1)) (-1)) R nx sl) = (z_cI 5 76 [.inr (.inr (some o))] (z_mk L Dh (y_tc S o (nI (x.1 + 1)) (-1)) R nx sl)).bind fun p1 => if v2 = (0 : Int32) then (L75_92 x.2 v3 w p1.1 p1.2) else (if x.2 < p1.1 then (some ((1 : Int32), p1.2)) else (L75_92 x.2 v3 w p1.1 p1.2)) := by
        rw [E75_53]
        rcases hs with ⟨rfl, rfl, rfl, -⟩ | ⟨rfl, rfl, rfl, -⟩ | ⟨rfl, rfl, rfl, -⟩
        · simp only [z_10, not_false_eq_true, z_iT, x1, z_bs]
        · simp only [z_10, z_e00, not_true, z_iF, not_false_eq_true, z_iT, x1, z_bs]
        · simp only [z_10, z_e00, not_true, z_iF, not_false_eq_true, z_iT, x1, z_bs]
      have val3 : ∀ (y : Int32) (h : z_H), (if v2 = (0 : Int32) then (L75_92 x.2 v3 w y h) else (if x.2 < y then (some ((1 : Int32), h)) else (L75_92 x.2 v3 w y h))) = some (if y_cmv (f x.1) x.2 y = true then 1 else 0, h) := fun y h => by
        unfold y_cmv
        rcases hs with ⟨rfl, rfl, rfl, hs⟩ | ⟨rfl, rfl, rfl, hs⟩ | ⟨rfl, rfl, rfl, hs⟩
        · rw [if_neg (by decide), hs, if_pos rfl, E75_92, if_pos rfl, if_pos rfl]
          by_cases g : x.2 < y
          · rw [if_pos g, if_pos (decide_eq_true g)]
          · rw [if_neg g, if_neg (by rw [decide_eq_false g]; decide)]
        · rw [if_pos rfl, hs, if_neg (show ¬ (61 : Int32) = 60 by decide), if_pos (show (61 : Int32) = 61 from rfl), E75_92, if_neg (show ¬ (1 : Int32) = 0 by decide), if_pos (show (0 : Int32) = 0 from rfl)]
          by_cases g : x.2 = y
          · rw [if_pos g, if_pos (decide_eq_true g)]
          · rw [if_neg g, if_neg (by rw [decide_eq_false g]; decide)]
        · rw [if_pos rfl, hs, if_neg (show ¬ (62 : Int32) = 60 by decide), if_neg (show ¬ (62 : Int32) = 61 by decide), E75_92, if_pos (show (0 : Int32) = 0 from rfl), if_neg (show ¬ (1 : Int32) = 0 by decide)]
          by_cases g : x.2 ≤ y
          · rw [if_pos g, if_neg (by rw [decide_eq_false (Int32.not_lt.mpr g)]; decide)]
          · rw [if_neg g, if_pos (decide_eq_true (Int32.not_le.mp g))]
      rw [e53, h2]
      cases hv : y_unt f n val (x.1 + 1) with
      | inl p =>
        refine ⟨if y_cmv (f x.1) x.2 0 = true then 1 else 0, nI p, ?_, ?_⟩
        · cases y_cmv (f x.1) x.2 0 <;> simp
        · simp only [z_bs]
          exact val3 _ _
      | inr y =>
        show (some (y.2, z_mk L Dh (y_tc S o (nI y.1) (-1)) R nx sl)).bind _ = some (if y_cmv (f x.1) x.2 y.2 = true then 1 else 0, z_mk L Dh (y_tc S o (nI y.1) (-1)) R nx sl)
        simp only [z_bs]
        exact val3 _ _
    by_cases c60 : x.1 < n ∧ f x.1 = 60
    · rw [if_pos c60, if_pos ⟨c60.1, by unfold y_sg; rw [c60.2]; rfl⟩]
      simp only [z_bs, z_10, not_false_eq_true, z_iT]
      rw [E75_29, if_pos (by decide)]
      exact fin 1 0 0 id c60.1 (Or.inl ⟨rfl, rfl, rfl, c60.2⟩)
    · rw [if_neg c60]
      simp only [z_bs, z_e00, not_true, z_iF, x1, m78]
      by_cases c61 : x.1 < n ∧ f x.1 = 61
      · rw [if_pos c61, if_pos ⟨c61.1, by unfold y_sg; rw [c61.2]; rfl⟩]
        simp only [z_bs, z_10, z_iF, not_false_eq_true, z_iT]
        exact fin 0 1 0 id c61.1 (Or.inr (Or.inl ⟨rfl, rfl, rfl, c61.2⟩))
      · rw [if_neg c61]
        simp only [z_bs, z_e00, z_iT]
        rw [E75_29, if_neg (fun q => q rfl), if_neg (fun q => q rfl)]
        simp only [z_bs, x1, m78]
        by_cases c62 : x.1 < n ∧ f x.1 = 62
        · rw [if_pos c62, if_pos ⟨c62.1, by unfold y_sg; rw [c62.2]; rfl⟩]
          simp only [z_bs, z_10, z_iF]
          exact fin 0 0 1 id c62.1 (Or.inr (Or.inr ⟨rfl, rfl, rfl, c62.2⟩))
        · have hno : ¬ (x.1 < n ∧ y_sg (f x.1) = true) := fun q => by
            obtain ⟨w1, w2⟩ := q
            unfold y_sg at w2
            rw [Bool.or_eq_true, Bool.or_eq_true, decide_eq_true_iff, decide_eq_true_iff, decide_eq_true_iff] at w2
            rcases w2 with (w | w) | w
            · exact c60 ⟨w1, w⟩
            · exact c61 ⟨w1, w⟩
            · exact c62 ⟨w1, w⟩
          rw [if_neg c62, if_neg hno]
          refine ⟨0, nI x.1, Or.inl rfl, ?_⟩
          simp only [z_bs, z_e00, z_iT]
          rw [E75_53]
          simp only [z_e00, not_true, z_iF, x1, z_bs, X.2.2.2.1, y_tc2, M79 X, M76f X (show x.1 < 1000 by omega), z_iT]
          rw [E75_92]
          simp only [z_e00, z_iT]
end ZTC2
