/-! texts: how they are read -/
abbrev y_Rs (α : Type) : Type := Nat ⊕ (Nat × α)
def y_id (b : Int32) : Bool := !decide (b < 48) && !decide (57 < b)
def y_dgs (f : Nat → Int32) (n : Nat) : Nat → Nat → Int32 → Nat × Int32
  | 0, a, v => (a, v)
  | j + 1, a, v => if a < n ∧ y_id (f a) = true then y_dgs f n j (a + 1) (((10 : Int32) * v + f a) - 48) else (a, v)
theorem y_dgs_s (f : Nat → Int32) (n j a : Nat) (v : Int32) : y_dgs f n (j + 1) a v = if a < n ∧ y_id (f a) = true then y_dgs f n j (a + 1) (((10 : Int32) * v + f a) - 48) else (a, v) := rfl
def y_lt (b : Int32) : Option Nat := if b = 119 then some 0 else if b = 103 then some 1 else if b = 115 then some 2 else if b = 116 then some 3 else if b = 104 then some 4 else if b = 113 then some 5 else if b = 98 then some 6 else none
def y_unl (f : Nat → Int32) (n : Nat) (val : Nat → Int32) (a : Nat) : y_Rs Int32 := if a < n then (match y_lt (f a) with | some i => .inr (a + 1, val i) | none => .inl a) else .inl a
def y_unt (f : Nat → Int32) (n : Nat) (val : Nat → Int32) (a : Nat) : y_Rs Int32 := if (y_dgs f n 4 a 0).1 = a then y_unl f n val a else .inr (y_dgs f n 4 a 0)
def y_cmv (s x y : Int32) : Bool := if s = 60 then decide (x < y) else if s = 61 then decide (x = y) else decide (y < x)
def y_sg (s : Int32) : Bool := decide (s = 60) || decide (s = 61) || decide (s = 62)
def y_cpr (f : Nat → Int32) (n : Nat) (val : Nat → Int32) (a : Nat) : y_Rs Bool := match y_unt f n val a with
  | .inl p => .inl p
  | .inr x => if x.1 < n ∧ y_sg (f x.1) = true then (match y_unt f n val (x.1 + 1) with | .inl p => .inl p | .inr y => .inr (y.1, y_cmv (f x.1) x.2 y.2)) else .inl x.1
def y_os (f : Nat → Int32) (n : Nat) (T : Nat → y_Rs Bool) : Nat → Bool → Bool → Nat → y_Rs Bool
  | 0, _, _, a => .inl a
  | j + 1, any, all, a => match T a with
    | .inl p => .inl p
    | .inr x => if x.1 < n ∧ f x.1 = 38 then y_os f n T j any (all && x.2) (x.1 + 1) else if x.1 < n ∧ f x.1 = 124 then y_os f n T j (any || (all && x.2)) true (x.1 + 1) else .inr (x.1, any || (all && x.2))
theorem y_os_s (f : Nat → Int32) (n : Nat) (T : Nat → y_Rs Bool) (j : Nat) (any all : Bool) (a : Nat) : y_os f n T (j + 1) any all a = match T a with
    | .inl p => .inl p
    | .inr x => if x.1 < n ∧ f x.1 = 38 then y_os f n T j any (all && x.2) (x.1 + 1) else if x.1 < n ∧ f x.1 = 124 then y_os f n T j (any || (all && x.2)) true (x.1 + 1) else .inr (x.1, any || (all && x.2)) := rfl
def y_neg : y_Rs Bool → y_Rs Bool
  | .inl p => .inl p
  | .inr x => .inr (x.1, !x.2)
def y_cls (f : Nat → Int32) (n : Nat) : y_Rs Bool → y_Rs Bool
  | .inl p => .inl p
  | .inr x => if x.1 < n ∧ f x.1 = 41 then .inr (x.1 + 1, x.2) else .inl x.1
def y_tst (f : Nat → Int32) (n : Nat) (val : Nat → Int32) : Nat → Nat → y_Rs Bool
  | 0, a => if a < n ∧ (f a = 33 ∨ f a = 40) then .inl a else y_cpr f n val a
  | k + 1, a => if a < n ∧ f a = 33 then y_neg (y_tst f n val k (a + 1)) else if a < n ∧ f a = 40 then y_cls f n (y_os f n (y_tst f n val k) 61 false true (a + 1)) else y_cpr f n val a
theorem y_tst_0 (f : Nat → Int32) (n : Nat) (val : Nat → Int32) (a : Nat) : y_tst f n val 0 a = if a < n ∧ (f a = 33 ∨ f a = 40) then .inl a else y_cpr f n val a := rfl
theorem y_tst_s (f : Nat → Int32) (n : Nat) (val : Nat → Int32) (k a : Nat) : y_tst f n val (k + 1) a = if a < n ∧ f a = 33 then y_neg (y_tst f n val k (a + 1)) else if a < n ∧ f a = 40 then y_cls f n (y_os f n (y_tst f n val k) 61 false true (a + 1)) else y_cpr f n val a := rfl
def y_all (f : Nat → Int32) (n : Nat) (val : Nat → Int32) : y_Rs Bool := y_os f n (y_tst f n val 5) 61 false true 0
def y_flt (f : Nat → Int32) (n : Nat) (val : Nat → Int32) : Option Nat := match y_all f n val with
  | .inl p => some p
  | .inr x => if x.1 < n then some x.1 else none
/-- where reading goes -/
def y_rb {α : Type} (n a : Nat) (r : y_Rs α) : Prop := match r with
  | .inl p => a ≤ p ∧ p ≤ n
  | .inr x => a < x.1 ∧ x.1 ≤ n
theorem y_dgs_b (f : Nat → Int32) (n : Nat) : ∀ (j a : Nat) (v : Int32), a ≤ n → a ≤ (y_dgs f n j a v).1 ∧ (y_dgs f n j a v).1 ≤ n
  | 0, a, v, h => ⟨Nat.le_refl _, h⟩
  | j + 1, a, v, h => by
    rw [y_dgs_s]
    by_cases c : a < n ∧ y_id (f a) = true
    · rw [if_pos c]
      have := y_dgs_b f n j (a + 1) (((10 : Int32) * v + f a) - 48) (by omega)
      omega
    · rw [if_neg c]; exact ⟨Nat.le_refl _, h⟩
theorem y_unt_b (f : Nat → Int32) (n : Nat) (val : Nat → Int32) (a : Nat) (h : a ≤ n) : y_rb n a (y_unt f n val a) := by
  have hd := y_dgs_b f n 4 a 0 h
  unfold y_unt
  by_cases c : (y_dgs f n 4 a 0).1 = a
  · rw [if_pos c]
    unfold y_unl
    by_cases d : a < n
    · rw [if_pos d]
      cases y_lt (f a) with
      | none => exact ⟨Nat.le_refl _, h⟩
      | some i => exact ⟨Nat.lt_succ_self _, d⟩
    · rw [if_neg d]; exact ⟨Nat.le_refl _, h⟩
  · rw [if_neg c]; exact ⟨by omega, hd.2⟩
theorem y_cpr_b (f : Nat → Int32) (n : Nat) (val : Nat → Int32) (a : Nat) (h : a ≤ n) : y_rb n a (y_cpr f n val a) := by
  have h1 := y_unt_b f n val a h
  unfold y_cpr
  cases hu : y_unt f n val a with
  | inl p => rw [hu] at h1; exact h1
  | inr x =>
    rw [hu] at h1
    obtain ⟨q1, q2⟩ := h1
    show y_rb n a (if x.1 < n ∧ y_sg (f x.1) = true then (match y_unt f n val (x.1 + 1) with | .inl p => .inl p | .inr y => .inr (y.1, y_cmv (f x.1) x.2 y.2)) else .inl x.1)
    by_cases c : x.1 < n ∧ y_sg (f x.1) = true
    · rw [if_pos c]
      have h2 := y_unt_b f n val (x.1 + 1) (by omega)
      cases hv : y_unt f n val (x.1 + 1) with
      | inl p => rw [hv] at h2; obtain ⟨q3, q4⟩ := h2; exact ⟨by omega, q4⟩
      | inr y => rw [hv] at h2; obtain ⟨q3, q4⟩ := h2; exact ⟨by show a < y.1; omega, q4⟩
    · rw [if_neg c]; exact ⟨by omega, q2⟩
theorem y_os_b (f : Nat → Int32) (n : Nat) (T : Nat → y_Rs Bool) (hT : ∀ a, a ≤ n → y_rb n a (T a)) : ∀ (j : Nat) (any all : Bool) (a : Nat), a ≤ n → y_rb n a (y_os f n T j any all a)
  | 0, _, _, a, h => ⟨Nat.le_refl _, h⟩
  | j + 1, any, all, a, h => by
    have h1 := hT a h
    rw [y_os_s]
    cases hu : T a with
    | inl p => rw [hu] at h1; exact h1
    | inr x =>
      rw [hu] at h1
      obtain ⟨q1, q2⟩ := h1
      show y_rb n a (if x.1 < n ∧ f x.1 = 38 then y_os f n T j any (all && x.2) (x.1 + 1) else if x.1 < n ∧ f x.1 = 124 then y_os f n T j (any || (all && x.2)) true (x.1 + 1) else .inr (x.1, any || (all && x.2)))
      have up : ∀ r : y_Rs Bool, y_rb n (x.1 + 1) r → y_rb n a r := fun r hr => by
        cases r with
        | inl p => obtain ⟨w1, w2⟩ := hr; exact ⟨by omega, w2⟩
        | inr y => obtain ⟨w1, w2⟩ := hr; exact ⟨by omega, w2⟩
      by_cases c : x.1 < n ∧ f x.1 = 38
      · rw [if_pos c]; exact up _ (y_os_b f n T hT j _ _ _ (by omega))
      · rw [if_neg c]
        by_cases d : x.1 < n ∧ f x.1 = 124
        · rw [if_pos d]; exact up _ (y_os_b f n T hT j _ _ _ (by omega))
        · rw [if_neg d]; exact ⟨q1, q2⟩
theorem y_tst_b (f : Nat → Int32) (n : Nat) (val : Nat → Int32) : ∀ (k a : Nat), a ≤ n → y_rb n a (y_tst f n val k a)
  | 0, a, h => by
    rw [y_tst_0]
    by_cases c : a < n ∧ (f a = 33 ∨ f a = 40)
    · rw [if_pos c]; exact ⟨Nat.le_refl _, h⟩
    · rw [if_neg c]; exact y_cpr_b f n val a h
  | k + 1, a, h => by
    rw [y_tst_s]
    by_cases c : a < n ∧ f a = 33
    · rw [if_pos c]
      have h1 := y_tst_b f n val k (a + 1) (by omega)
      cases hr : y_tst f n val k (a + 1) with
      | inl p => rw [hr] at h1; obtain ⟨w1, w2⟩ := h1; exact ⟨by omega, w2⟩
      | inr x => rw [hr] at h1; obtain ⟨w1, w2⟩ := h1; exact ⟨by show a < x.1; omega, w2⟩
    · rw [if_neg c]
      by_cases d : a < n ∧ f a = 40
      · rw [if_pos d]
        have h1 := y_os_b f n (y_tst f n val k) (fun a ha => y_tst_b f n val k a ha) 61 false true (a + 1) (by omega)
        cases hr : y_os f n (y_tst f n val k) 61 false true (a + 1) with
        | inl p => rw [hr] at h1; obtain ⟨w1, w2⟩ := h1; exact ⟨by omega, w2⟩
        | inr x =>
          rw [hr] at h1
          obtain ⟨w1, w2⟩ := h1
          show y_rb n a (if x.1 < n ∧ f x.1 = 41 then .inr (x.1 + 1, x.2) else .inl x.1)
          by_cases e : x.1 < n ∧ f x.1 = 41
          · rw [if_pos e]; exact ⟨by show a < x.1 + 1; omega, by show x.1 + 1 ≤ n; omega⟩
          · rw [if_neg e]; exact ⟨by omega, w2⟩
      · rw [if_neg d]; exact y_cpr_b f n val a h

