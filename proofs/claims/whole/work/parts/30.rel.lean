/-! class and model beside each other -/
/-- nothing else is written: cells by A, fields of the model's own thing by K -/
def z_fr (A K : Nat → Bool) (S S' : Nat → Nat → Int32) : Prop := (∀ a, A a = false → a ≠ 52 → S' a = S a) ∧ (∀ k, K k = false → S' 52 k = S 52 k)
/-- both answer alike, and P holds behind them -/
def z_R2 (c m : z_H → Option (Int32 × z_H)) (L : Nat) (Dh : Nat → z_Sh) (S : Nat → Nat → Int32) (R : Nat → Nat → Option Nat) (nx sl : Nat) (A K : Nat → Bool) (P : (Nat → Nat → Int32) → Prop) : Prop :=
  ∃ (r : Int32) (S1 S2 : Nat → Nat → Int32), c (z_mk L Dh S R nx sl) = some (r, z_mk L Dh S1 R nx sl) ∧ m (z_mk L Dh S1 R nx sl) = some (r, z_mk L Dh S2 R nx sl) ∧ z_fr A K S S2 ∧ P S2
def I_ref (S : Nat → Nat → Int32) : Prop := ∀ i, i < 7 → S 7 i = S 86 i
theorem I_ref_fr {S S' : Nat → Nat → Int32} (h : I_ref S) (e : S' 7 = S 7 ∧ S' 86 = S 86) : I_ref S' := fun i hi => by rw [e.1, e.2]; exact h i hi
theorem z_code_lt {c : Int32} (hc : z_code c) : (-c).toNatClampNeg < 7 := by rcases hc with rfl | rfl | rfl | rfl | rfl <;> decide
theorem z_no_ref {S : Nat → Nat → Int32} (h : I_ref S) {c : Int32} (hc : z_code c) : I_ref (z_no 86 (z_no 7 S c) c) := by
  intro i hi
  have hk := z_code_lt hc
  have e := h _ hk
  unfold z_no
  generalize (-c).toNatClampNeg = k at e hk
  simp only [z_upsE, Nat.reduceEqDiff, z_iF, z_iT]
  by_cases hik : i = k
  · subst hik
    rw [if_pos rfl, if_pos rfl, e]
  · rw [if_neg hik, if_neg hik]
    exact h i hi
theorem z_no_fr {S : Nat → Nat → Int32} {c : Int32} {A K : Nat → Bool} (h7 : A 7 = true) (h86 : A 86 = true) : z_fr A K S (z_no 86 (z_no 7 S c) c) := by
  refine ⟨fun a ha h52 => ?_, fun k _ => rfl⟩
  have e7 : a ≠ 7 := fun q => by rw [q, h7] at ha; cases ha
  have e86 : a ≠ 86 := fun q => by rw [q, h86] at ha; cases ha
  unfold z_no
  rw [z_ups_ne e86, z_ups_ne e7]
section ZR2
variable {c m : z_H → Option (Int32 × z_H)} {L : Nat} {Dh : Nat → z_Sh} {S : Nat → Nat → Int32} {R : Nat → Nat → Option Nat} {nx sl : Nat} {A K : Nat → Bool} {P : (Nat → Nat → Int32) → Prop}
/-- both refuse -/
theorem z_R2_no {k : Int32} (hk : z_code k) (h7 : A 7 = true) (h86 : A 86 = true) (hr : I_ref S) (hc : c (z_mk L Dh S R nx sl) = some (k, z_mk L Dh (z_no 7 S k) R nx sl)) (hm : m (z_mk L Dh (z_no 7 S k) R nx sl) = some (k, z_mk L Dh (z_no 86 (z_no 7 S k) k) R nx sl)) (hP : P (z_no 86 (z_no 7 S k) k)) : z_R2 c m L Dh S R nx sl A K P := ⟨k, _, _, hc, hm, z_no_fr h7 h86, hP⟩
/-- both only look -/
theorem z_R2_q {r : Int32} (hc : c (z_mk L Dh S R nx sl) = some (r, z_mk L Dh S R nx sl)) (hm : m (z_mk L Dh S R nx sl) = some (r, z_mk L Dh S R nx sl)) (hP : P S) : z_R2 c m L Dh S R nx sl A K P := ⟨r, _, _, hc, hm, ⟨fun _ _ _ => rfl, fun _ _ => rfl⟩, hP⟩
end ZR2
/-- runs and plans stand for the same -/
def I_bk (c m : Int32) : Prop := (c = 1000 ∧ m = 9999) ∨ (c = m ∧ 0 ≤ c.toInt ∧ c.toInt ≤ 999)
def I_tab (S : Nat → Nat → Int32) : Prop := ∃ n k : Nat, n ≤ 60 ∧ k ≤ 20 ∧ S 42 6 = nI n ∧ S 52 39 = nI n ∧ S 42 11 = nI k ∧ S 52 41 = nI k ∧ S 52 38 = S 42 0 ∧ 0 ≤ (S 42 0).toInt ∧ (S 42 0).toInt ≤ 999 ∧
  (∀ i, i < n → S 43 i = S 78 (i * 5 + 0) ∧ S 44 i = S 78 (i * 5 + 1) ∧ S 45 i = S 78 (i * 5 + 2) ∧ S 46 i = S 78 (i * 5 + 3) ∧ I_bk (S 47 i) (S 78 (i * 5 + 4)) ∧ 1 ≤ (S 45 i).toInt ∧ (S 45 i).toInt ≤ 9999 ∧ (S 46 i).toInt ≤ (S 42 0).toInt) ∧
  (∀ i, i < k → S 48 i = S 79 (i * 4 + 0) ∧ S 49 i = S 79 (i * 4 + 1) ∧ S 50 i = S 79 (i * 4 + 2) ∧ S 51 i = S 79 (i * 4 + 3) ∧ 0 ≤ (S 51 i).toInt ∧ (S 51 i).toInt ≤ 999)
theorem I_tab_fr {S S' : Nat → Nat → Int32} (h : I_tab S) (e : S' 42 = S 42 ∧ S' 43 = S 43 ∧ S' 44 = S 44 ∧ S' 45 = S 45 ∧ S' 46 = S 46 ∧ S' 47 = S 47 ∧ S' 48 = S 48 ∧ S' 49 = S 49 ∧ S' 50 = S 50 ∧ S' 51 = S 51 ∧ S' 78 = S 78 ∧ S' 79 = S 79 ∧ S' 52 38 = S 52 38 ∧ S' 52 39 = S 52 39 ∧ S' 52 41 = S 52 41) : I_tab S' := by
  obtain ⟨e1, e2, e3, e4, e5, e6, e7, e8, e9, e10, e11, e12, e13, e14, e15⟩ := e
  unfold I_tab
  rw [e1, e2, e3, e4, e5, e6, e7, e8, e9, e10, e11, e12, e13, e14, e15]
  exact h
theorem z_bk_cnt {c m K k : Int32} (h : I_bk c m) (hk : k.toInt ≤ 999) : z_cnt K c k = z_cnt K m k := by
  rcases h with ⟨rfl, rfl⟩ | ⟨rfl, -, -⟩
  · unfold z_cnt
    have e1 : decide (k < 1000) = true := decide_eq_true (z_lt.mpr (by have : (1000 : Int32).toInt = 1000 := rfl; omega))
    have e2 : decide (k < 9999) = true := decide_eq_true (z_lt.mpr (by have : (9999 : Int32).toInt = 9999 := rfl; omega))
    rw [e1, e2]
  · rfl
/-- grip is one, for days that may be asked for -/
theorem z_grip_eq {S : Nat → Nat → Int32} {n : Nat} (h : ∀ i, i < n → S 43 i = S 78 (i * 5 + 0) ∧ S 44 i = S 78 (i * 5 + 1) ∧ S 45 i = S 78 (i * 5 + 2) ∧ S 46 i = S 78 (i * 5 + 3) ∧ I_bk (S 47 i) (S 78 (i * 5 + 4)) ∧ 1 ≤ (S 45 i).toInt ∧ (S 45 i).toInt ≤ 9999 ∧ (S 46 i).toInt ≤ (S 42 0).toInt) {g k : Int32} (hk : k.toInt ≤ 999) : z_cG S n g k = z_mG S n g k := by
  unfold z_cG z_mG
  rw [z_gacc_congr n (fun i hi => ?_)]
  obtain ⟨h1, h2, h3, h4, h5, -⟩ := h i hi
  exact ⟨h1, h2, h3, by rw [z_bk_cnt h5 hk, h4]⟩
