section ZTD
variable {L : Nat} {Dh : Nat → z_Sh} {S : Nat → Nat → Int32} {R : Nat → Nat → Option Nat} {nx sl : Nat}
variable {o β : Nat} {f : Nat → Int32} {n : Nat} {val : Nat → Int32}
theorem M73_10 {k : Nat} (X : y_Tx L Dh R nx sl o β) (B : y_Tb S o β f n val) (hT : ∀ dd, 2 * k ≤ dd → ∀ a, a ≤ n → y_ot L Dh S R nx sl o (z_cI (dd + 12) 74 [.inr (.inr (some o)), .inl (nI (5 - k))] (z_mk L Dh (y_tc S o (nI a) (-1)) R nx sl)) (y_tst f n val k a)) : ∀ (j i : Nat) (any all : Bool) (a dd : Nat), i + j = 61 → a ≤ n → n < a + j → 2 * k ≤ dd → y_ot L Dh S R nx sl o (L73_10 (dd + 1) (some o) (nI (5 - k)) (if any = true then 1 else 0) (if all = true then 1 else 0) 1 (nI i) (z_mk L Dh (y_tc S o (nI a) (-1)) R nx sl)) (y_os f n (y_tst f n val k) j any all a) := by
  have hn60 := B.2.1
  have x1 := X.1
  intro j
  induction j with
  | zero => intro i any all a dd h1 h2 h3; omega
  | succ j ih =>
    intro i any all a dd hi ha hf hd
    have ht : y_ot L Dh S R nx sl o (z_cI (dd + 1 + 11) 74 [.inr (.inr (some o)), .inl (nI (5 - k))] (z_mk L Dh (y_tc S o (nI a) (-1)) R nx sl)) (y_tst f n val k a) := hT dd hd a ha
    have hb := y_tst_b f n val k a ha
    have e10 : ∀ (v x : Int32) (h : z_H), (v = 0 ∨ v = 1) → L73_10 (dd + 1) (some o) (nI (5 - k)) v 1 0 x h = some (v, h) := fun v x h hv => by
      rw [E73_10]
      by_cases c : (60 : Int32) < x
      · rw [if_pos c, if_pos hv]
      · rw [if_neg c, if_pos rfl, if_pos hv]
    have b01 : ∀ b : Bool, (if b = true then (1 : Int32) else 0) = 0 ∨ (if b = true then (1 : Int32) else 0) = 1 := fun b => by cases b <;> simp
    rw [E73_10, if_neg (show ¬ (60 : Int32) < nI i from Int32.not_lt.mpr (nI_le (b := 60) (by omega) (by decide))), if_neg (by decide), y_os_s]
    simp only [x1, z_bs]
    cases hr : y_tst f n val k a with
    | inl p =>
      rw [hr] at ht hb
      obtain ⟨q, Aa, hq, he⟩ := ht
      have hp : p < 1000 := by have := hb.2; omega
      have fl : ∀ w0 : Int32, ∃ r A', (r = 0 ∨ r = 1) ∧ L73_43 (dd + 1) (some o) (nI (5 - k)) (if any = true then 1 else 0) (nI i) w0 (z_mk L Dh (y_tc S o Aa (nI p)) R nx sl) = some (r, z_mk L Dh (y_tc S o A' (nI p)) R nx sl) := fun w0 => by
        rw [E73_43]
        simp only [x1, z_bs, M78f X hp, z_e00, not_true, z_iF]
        cases any
        · simp only [z_ff, z_iF, z_e00, not_true]
          by_cases c : w0 = 0
          · rw [if_pos c]; exact ⟨0, Aa, Or.inl rfl, e10 _ _ _ (Or.inl rfl)⟩
          · rw [if_neg c]; exact ⟨1, Aa, Or.inr rfl, e10 _ _ _ (Or.inr rfl)⟩
        · simp only [z_tt, z_iT, z_10, not_false_eq_true]
          exact ⟨1, Aa, Or.inr rfl, e10 _ _ _ (Or.inr rfl)⟩
      rw [he]
      simp only [z_bs]
      show ∃ q A, (q = 0 ∨ q = 1) ∧ _ = some (q, _)
      by_cases c1 : (if all = true then (1 : Int32) else 0) = 0
      · rw [if_pos c1]; exact fl 0
      · rw [if_neg c1]
        by_cases c2 : q = 0
        · rw [if_pos c2]; exact fl 0
        · rw [if_neg c2]; exact fl 1
    | inr x =>
      rw [hr] at ht hb
      obtain ⟨w1, w2⟩ := hb
      have he : z_cI (dd + 1 + 11) 74 [.inr (.inr (some o)), .inl (nI (5 - k))] (z_mk L Dh (y_tc S o (nI a) (-1)) R nx sl) = some (if x.2 = true then 1 else 0, z_mk L Dh (y_tc S o (nI x.1) (-1)) R nx sl) := ht
      rw [he]
      simp only [z_bs]
      have m78 := fun c => M78 X B (a := x.1) w2 (c := c)
      have go : ∀ al : Bool, y_ot L Dh S R nx sl o (L73_43 (dd + 1) (some o) (nI (5 - k)) (if any = true then 1 else 0) (nI i) (if al = true then 1 else 0) (z_mk L Dh (y_tc S o (nI x.1) (-1)) R nx sl)) (if x.1 < n ∧ f x.1 = 38 then y_os f n (y_tst f n val k) j any al (x.1 + 1) else if x.1 < n ∧ f x.1 = 124 then y_os f n (y_tst f n val k) j (any || al) true (x.1 + 1) else .inr (x.1, any || al)) := fun al => by
        rw [E73_43]
        simp only [x1, z_bs, m78]
        by_cases c1 : x.1 < n ∧ f x.1 = 38
        · rw [if_pos c1, if_pos c1]
          simp only [z_bs, z_10, not_false_eq_true, z_iT, nI_1]
          exact ih (i + 1) any al (x.1 + 1) dd (by omega) (by omega) (by omega) hd
        · rw [if_neg c1, if_neg c1]
          simp only [z_bs, z_e00, not_true, z_iF, x1, m78]
          have fin : ∀ an : Bool, y_ot L Dh S R nx sl o ((if x.1 < n ∧ f x.1 = 124 then some ((1 : Int32), z_mk L Dh (y_tc S o (nI (x.1 + 1)) (-1)) R nx sl) else some (0, z_mk L Dh (y_tc S o (nI x.1) (-1)) R nx sl)).bind fun p2 => L73_10 (dd + 1) (some o) (nI (5 - k)) (if an = true then 1 else 0) 1 p2.1 (nI i + 1) p2.2) (if x.1 < n ∧ f x.1 = 124 then y_os f n (y_tst f n val k) j an true (x.1 + 1) else .inr (x.1, an)) := fun an => by
            by_cases c2 : x.1 < n ∧ f x.1 = 124
            · rw [if_pos c2, if_pos c2]
              simp only [z_bs, nI_1]
              exact ih (i + 1) an true (x.1 + 1) dd (by omega) (by omega) (by omega) hd
            · rw [if_neg c2, if_neg c2]
              simp only [z_bs]
              exact e10 _ _ _ (b01 an)
          cases any
          · simp only [z_ff, z_iF, z_e00, not_true]
            cases al
            · simp only [z_ff, z_iF, z_e00, z_iT]
              exact fin false
            · simp only [z_tt, z_iT, z_10, z_iF]
              exact fin true
          · simp only [z_tt, z_iT, z_10, not_false_eq_true]
            exact fin true
      show y_ot L Dh S R nx sl o _ (if x.1 < n ∧ f x.1 = 38 then y_os f n (y_tst f n val k) j any (all && x.2) (x.1 + 1) else if x.1 < n ∧ f x.1 = 124 then y_os f n (y_tst f n val k) j (any || (all && x.2)) true (x.1 + 1) else .inr (x.1, any || (all && x.2)))
      have hal : ∀ g : Int32 → Option (Int32 × z_H), (if (if all = true then (1 : Int32) else 0) = 0 then g 0 else (if (if x.2 = true then (1 : Int32) else 0) = 0 then g 0 else g 1)) = g (if (all && x.2) = true then 1 else 0) := fun g => by
        cases all <;> cases x.2 <;> rfl
      rw [hal (fun w => L73_43 (dd + 1) (some o) (nI (5 - k)) (if any = true then 1 else 0) (nI i) w (z_mk L Dh (y_tc S o (nI x.1) (-1)) R nx sl))]
      exact go _
theorem M74 (X : y_Tx L Dh R nx sl o β) (B : y_Tb S o β f n val) : ∀ (k : Nat), k ≤ 5 → ∀ dd, 2 * k ≤ dd → ∀ a, a ≤ n → y_ot L Dh S R nx sl o (z_cI (dd + 12) 74 [.inr (.inr (some o)), .inl (nI (5 - k))] (z_mk L Dh (y_tc S o (nI a) (-1)) R nx sl)) (y_tst f n val k a) := by
  have hn60 := B.2.1
  have x1 := X.1
  have x4 := X.2.2.2.1
  have b01 : ∀ b : Bool, (if b = true then (1 : Int32) else 0) = 0 ∨ (if b = true then (1 : Int32) else 0) = 1 := fun b => by cases b <;> simp
  -- a comparison, behind signs that are not there
  have cmp : ∀ (dd a : Nat) (d : Int32), a ≤ n → ¬ (a < n ∧ f a = 33) → ¬ (a < n ∧ f a = 40) → y_ot L Dh S R nx sl o (L74_33 dd (some o) d (z_mk L Dh (y_tc S o (nI a) (-1)) R nx sl)) (y_cpr f n val a) := fun dd a d ha c1 c2 => by
    have h75 := M75 X B ha
    rw [E74_33]
    simp only [x1, z_bs, M78 X B ha, c1, c2, z_iF, z_e00, z_iT, not_true]
    cases hr : y_cpr f n val a with
    | inl p =>
      rw [hr] at h75
      obtain ⟨q, A', hq, he⟩ := h75
      refine ⟨q, A', hq, ?_⟩
      rw [he]
      simp only [z_bs]
      rw [if_pos hq]
    | inr x =>
      rw [hr] at h75
      have he : z_cI 6 75 [.inr (.inr (some o))] (z_mk L Dh (y_tc S o (nI a) (-1)) R nx sl) = some (if x.2 = true then 1 else 0, z_mk L Dh (y_tc S o (nI x.1) (-1)) R nx sl) := h75
      show _ = some (if x.2 = true then 1 else 0, z_mk L Dh (y_tc S o (nI x.1) (-1)) R nx sl)
      rw [he]
      simp only [z_bs]
      rw [if_pos (b01 _)]
  intro k
  induction k with
  | zero =>
    intro hk dd hd a ha
    rw [y_tst_0, E74, if_neg (show ¬ nI (5 - 0) < (5 : Int32) by decide)]
    simp only [x1, z_bs, M77 X B ha]
    by_cases c1 : a < n ∧ f a = 33
    · rw [if_pos c1, if_pos (by decide), if_pos ⟨c1.1, Or.inl c1.2⟩]
      refine ⟨0, nI a, Or.inl rfl, ?_⟩
      simp only [x4, y_tc2, z_bs, M79 X]
    · rw [if_neg c1, if_neg (fun q => q rfl)]
      by_cases c2 : a < n ∧ f a = 40
      · rw [if_pos c2, if_neg (by decide), if_pos ⟨c2.1, Or.inr c2.2⟩]
        refine ⟨0, nI a, Or.inl rfl, ?_⟩
        simp only [x4, y_tc2, z_bs, M79 X]
      · rw [if_neg c2, if_pos rfl, if_neg (show ¬ (a < n ∧ (f a = 33 ∨ f a = 40)) from fun q => q.2.elim (fun w => c1 ⟨q.1, w⟩) (fun w => c2 ⟨q.1, w⟩))]
        exact cmp dd a _ ha c1 c2
  | succ k ih =>
    intro hk dd hd a ha
    obtain ⟨d2, rfl⟩ : ∃ d2, dd = d2 + 2 := ⟨dd - 2, by omega⟩
    have hdp : nI (5 - (k + 1)) + 1 = nI (5 - k) := by rw [nI_1, show 5 - (k + 1) + 1 = 5 - k by omega]
    rw [y_tst_s, E74, if_pos (show nI (5 - (k + 1)) < (5 : Int32) from nI_lt (b := 5) (by omega) (by decide))]
    by_cases c1 : a < n ∧ f a = 33
    · rw [if_pos c1]
      have h := ih (by omega) (d2 + 1) (by omega) (a + 1) (by omega)
      have h : y_ot L Dh S R nx sl o (z_cI (d2 + 2 + 11) 74 [.inr (.inr (some o)), .inl (nI (5 - k))] (z_mk L Dh (y_tc S o (nI (a + 1)) (-1)) R nx sl)) (y_tst f n val k (a + 1)) := h
      rw [E74_33]
      simp only [x1, z_bs, M78 X B ha, c1, and_self, z_iT, z_10, z_iF, hdp]
      cases hr : y_tst f n val k (a + 1) with
      | inl p =>
        rw [hr] at h
        obtain ⟨q, A', hq, he⟩ := h
        rw [he]
        simp only [z_bs]
        rcases hq with rfl | rfl
        · exact ⟨1, A', Or.inr rfl, by simp only [z_e00, not_true, z_iF]⟩
        · exact ⟨0, A', Or.inl rfl, by simp only [z_10, not_false_eq_true, z_iT]⟩
      | inr x =>
        rw [hr] at h
        have he : z_cI (d2 + 2 + 11) 74 [.inr (.inr (some o)), .inl (nI (5 - k))] (z_mk L Dh (y_tc S o (nI (a + 1)) (-1)) R nx sl) = some (if x.2 = true then 1 else 0, z_mk L Dh (y_tc S o (nI x.1) (-1)) R nx sl) := h
        show _ = some (if (!x.2) = true then 1 else 0, z_mk L Dh (y_tc S o (nI x.1) (-1)) R nx sl)
        rw [he]
        simp only [z_bs]
        cases x.2 <;> rfl
    · rw [if_neg c1]
      by_cases c2 : a < n ∧ f a = 40
      · rw [if_pos c2]
        have h := M73_10 (k := k) X B (fun dd hd a ha => ih (by omega) dd hd a ha) 61 0 false true (a + 1) d2 (by omega) (by omega) (by omega) (by omega)
        have hb := y_os_b f n (y_tst f n val k) (fun a ha => y_tst_b f n val k a ha) 61 false true (a + 1) (by omega)
        have e73 : z_cI (d2 + 2 + 11) 73 [.inr (.inr (some o)), .inl (nI (5 - k))] (z_mk L Dh (y_tc S o (nI (a + 1)) (-1)) R nx sl) = L73_10 (d2 + 1) (some o) (nI (5 - k)) (if false = true then 1 else 0) (if true = true then 1 else 0) 1 (nI 0) (z_mk L Dh (y_tc S o (nI (a + 1)) (-1)) R nx sl) := E73 (d2 + 1) (some o) (nI (5 - k)) _
        rw [← e73] at h
        have n33 : ¬ (a < n ∧ f a = 33) := c1
        rw [E74_33]
        simp only [x1, z_bs, M78 X B ha, n33, z_iF, z_e00, z_iT]
        simp only [c2, and_self, z_iT, z_bs, z_10, not_false_eq_true, x1, hdp]
        cases hr : y_os f n (y_tst f n val k) 61 false true (a + 1) with
        | inl p =>
          rw [hr] at h hb
          obtain ⟨q, A', hq, he⟩ := h
          have hp : p < 1000 := by have := hb.2; omega
          refine ⟨q, A', hq, ?_⟩
          rw [he]
          simp only [z_bs, x1, M78f X hp, z_e00, not_true, z_iF, x4, M79f X hp]
          rw [if_pos hq]
        | inr x =>
          rw [hr] at h hb
          obtain ⟨w1, w2⟩ := hb
          have he : z_cI (d2 + 2 + 11) 73 [.inr (.inr (some o)), .inl (nI (5 - k))] (z_mk L Dh (y_tc S o (nI (a + 1)) (-1)) R nx sl) = some (if x.2 = true then 1 else 0, z_mk L Dh (y_tc S o (nI x.1) (-1)) R nx sl) := h
          rw [he]
          simp only [z_bs, x1, M78 X B w2]
          show y_ot L Dh S R nx sl o _ (if x.1 < n ∧ f x.1 = 41 then .inr (x.1 + 1, x.2) else .inl x.1)
          by_cases c3 : x.1 < n ∧ f x.1 = 41
          · rw [if_pos c3, if_pos c3]
            simp only [z_bs, z_10, not_false_eq_true, z_iT]
            exact if_pos (b01 _)
          · rw [if_neg c3, if_neg c3]
            refine ⟨if x.2 = true then 1 else 0, nI x.1, b01 _, ?_⟩
            simp only [z_bs, z_e00, not_true, z_iF, x4, y_tc2, x1, M79 X]
            exact if_pos (b01 _)
      · rw [if_neg c2]
        exact cmp (d2 + 2) a _ ha c1 c2
/-- the text as a whole -/
def y_val (f : Nat → Int32) (n : Nat) (val : Nat → Int32) : Bool := match y_all f n val with
  | .inl _ => false
  | .inr x => x.2
def y_ftI : Option Nat → Int32
  | none => -1
  | some p => nI p
theorem y_flt_le {p : Nat} (h : y_flt f n val = some p) : p ≤ n := by
  have hb := y_os_b f n (y_tst f n val 5) (fun a ha => y_tst_b f n val 5 a ha) 61 false true 0 (by omega)
  unfold y_flt y_all at h
  cases hr : y_os f n (y_tst f n val 5) 61 false true 0 with
  | inl q =>
    rw [hr] at h hb
    have : q = p := Option.some.inj h
    rw [← this]; exact hb.2
  | inr x =>
    rw [hr] at h hb
    have h : (if x.1 < n then some x.1 else none) = some p := h
    by_cases c : x.1 < n
    · rw [if_pos c] at h
      have := Option.some.inj h
      omega
    · rw [if_neg c] at h; cases h
theorem M72 {R0 : Nat → Nat → Option Nat} (hR : ∀ S, z_pR (z_mk L Dh S R0 nx sl) (some o) 9 4 (some 22) = some (z_mk L Dh S R nx sl)) (X : y_Tx L Dh R nx sl o β) (B : y_Tb S o β f n val) : ∃ A, z_cI 61 72 [.inr (.inr (some o)), .inr (.inr (some 22))] (z_mk L Dh S R0 nx sl) = some (if (y_flt f n val).isNone = true ∧ y_val f n val = true then 1 else 0, z_mk L Dh (y_tc S o A (y_ftI (y_flt f n val))) R nx sl) := by
  have hn60 := B.2.1
  have b1 := B.1
  have h := M73_10 (k := 5) X B (fun dd hd a ha => M74 X B 5 (by omega) dd hd a ha) 61 0 false true 0 47 (by omega) (by omega) (by omega) (by omega)
  have hb := y_os_b f n (y_tst f n val 5) (fun a ha => y_tst_b f n val 5 a ha) 61 false true 0 (by omega)
  have e73 : z_cI 60 73 [.inr (.inr (some o)), .inl (0 : Int32)] (z_mk L Dh (y_tc S o 0 (-1)) R nx sl) = L73_10 (47 + 1) (some o) (nI (5 - 5)) (if false = true then 1 else 0) (if true = true then 1 else 0) 1 (nI 0) (z_mk L Dh (y_tc S o (nI 0) (-1)) R nx sl) := E73 48 (some o) 0 _
  rw [← e73] at h
  have X' := X
  obtain ⟨x1, x2, x3, x4, x5, x6, x7, x8, x9, x10, x11, x12, x13, x14⟩ := X
  have est : z_ups (z_ups S o 2 0) o 3 (-1) = y_tc S o 0 (-1) := rfl
  rw [E72, hR]
  simp only [z_bs, x7, x8, x1, est]
  unfold y_flt y_val y_all
  cases hr : y_os f n (y_tst f n val 5) 61 false true 0 with
  | inl p =>
    rw [hr] at h hb
    obtain ⟨q, A', hq, he⟩ := h
    have hp : p < 1000 := by have := hb.2; omega
    refine ⟨A', ?_⟩
    rw [he]
    show _ = some (if (some p : Option Nat).isNone = true ∧ false = true then 1 else 0, z_mk L Dh (y_tc S o A' (nI p)) R nx sl)
    rw [if_neg (fun w => by cases w.2)]
    simp only [z_bs, x4, x3, x1, y_tc2, y_tc1, M79f X' hp, x5, y_tc3, y_nm1 (show p < 1000000 by omega), not_false_eq_true, z_iT]
    rcases hq with rfl | rfl
    · simp only [z_e00, z_iT]
      by_cases c : S o 1 ≤ A'
      · rw [if_pos c]
      · rw [if_neg c]
    · simp only [z_10, z_iF]
      by_cases c : S o 1 ≤ A'
      · rw [if_pos c]
      · rw [if_neg c]
  | inr x =>
    rw [hr] at h hb
    obtain ⟨w1, w2⟩ := hb
    have he : z_cI 60 73 [.inr (.inr (some o)), .inl (0 : Int32)] (z_mk L Dh (y_tc S o 0 (-1)) R nx sl) = some (if x.2 = true then 1 else 0, z_mk L Dh (y_tc S o (nI x.1) (-1)) R nx sl) := h
    refine ⟨nI x.1, ?_⟩
    rw [he]
    show _ = some (if (if x.1 < n then some x.1 else none : Option Nat).isNone = true ∧ x.2 = true then 1 else 0, z_mk L Dh (y_tc S o (nI x.1) (y_ftI (if x.1 < n then some x.1 else none))) R nx sl)
    simp only [z_bs, x4, x3, x1, y_tc2, y_tc1, b1, M79 X', x5, y_tc3]
    by_cases c : x.1 < n
    · rw [if_neg (nI_ge c (by omega)), if_pos c, if_neg (show ¬ ((some x.1 : Option Nat).isNone = true ∧ x.2 = true) from fun w => by cases w.1)]
      simp only [y_nm1 (show x.1 < 1000000 by omega), not_false_eq_true, z_iT]
      show _ = some ((0 : Int32), z_mk L Dh (y_tc S o (nI x.1) (nI x.1)) R nx sl)
      cases x.2
      · simp only [z_ff, z_iF, z_e00, z_iT]
      · simp only [z_tt, z_iT, z_10, z_iF]
    · rw [if_pos (nI_le (by omega) (by omega)), if_neg c]
      show _ = some (if (none : Option Nat).isNone = true ∧ x.2 = true then 1 else 0, z_mk L Dh (y_tc S o (nI x.1) (-1)) R nx sl)
      cases x.2
      · rw [if_neg (show ¬ ((none : Option Nat).isNone = true ∧ false = true) from fun w => by cases w.2)]
        simp only [z_ff, z_iF, z_e00, z_iT]
      · rw [if_pos (show (none : Option Nat).isNone = true ∧ true = true from ⟨rfl, rfl⟩)]
        simp only [z_tt, z_iT, z_10, z_iF, not_true]
end ZTD
