theorem y_nb8 {c o : Nat} (hc : c < 400) (ho : o < 400) : (∃ i, 0 ≤ i ∧ i < 0 + 8 ∧ y_onP c i 1 ∧ y_al c i 1 = o) ↔ (y_far c o ≤ 1 ∧ c ≠ o) := by
  have key : ∀ i, y_onP c i 1 → y_al c i 1 = o → (o : Int) = 20 * (((c / 20 : Nat) : Int) + y_dy i) + (((c % 20 : Nat) : Int) + y_dx i) := fun i h1 h2 => by
    have := y_al_toInt h1
    rw [h2] at this
    rw [this]
    simp
  have mk : ∀ i, i < 8 → (o : Int) = 20 * (((c / 20 : Nat) : Int) + y_dy i) + (((c % 20 : Nat) : Int) + y_dx i) → 0 ≤ ((c % 20 : Nat) : Int) + y_dx i → ((c % 20 : Nat) : Int) + y_dx i ≤ 19 → 0 ≤ ((c / 20 : Nat) : Int) + y_dy i → ((c / 20 : Nat) : Int) + y_dy i ≤ 19 → ∃ i, 0 ≤ i ∧ i < 0 + 8 ∧ y_onP c i 1 ∧ y_al c i 1 = o := fun i hi h1 h2 h3 h4 h5 => by
    have hon : y_onP c i 1 := by
      unfold y_onP
      simp only [Int.natCast_one, Int.mul_one]
      exact ⟨h2, h3, h4, h5⟩
    refine ⟨i, by omega, by omega, hon, ?_⟩
    have := y_al_toInt hon
    simp only [Int.natCast_one, Int.mul_one] at this
    omega
  constructor
  · rintro ⟨i, -, h0, h1, h2⟩
    have k := key i h1 h2
    unfold y_onP at h1
    simp only [Int.natCast_one, Int.mul_one] at h1
    unfold y_far
    rcases (show i = 0 ∨ i = 1 ∨ i = 2 ∨ i = 3 ∨ i = 4 ∨ i = 5 ∨ i = 6 ∨ i = 7 by omega) with rfl | rfl | rfl | rfl | rfl | rfl | rfl | rfl

    · rw [show y_dx 0 = 1 from rfl, show y_dy 0 = 0 from rfl] at k h1; omega
    · rw [show y_dx 1 = 1 from rfl, show y_dy 1 = 1 from rfl] at k h1; omega
    · rw [show y_dx 2 = 0 from rfl, show y_dy 2 = 1 from rfl] at k h1; omega
    · rw [show y_dx 3 = -1 from rfl, show y_dy 3 = 1 from rfl] at k h1; omega
    · rw [show y_dx 4 = -1 from rfl, show y_dy 4 = 0 from rfl] at k h1; omega
    · rw [show y_dx 5 = -1 from rfl, show y_dy 5 = -1 from rfl] at k h1; omega
    · rw [show y_dx 6 = 0 from rfl, show y_dy 6 = -1 from rfl] at k h1; omega
    · rw [show y_dx 7 = 1 from rfl, show y_dy 7 = -1 from rfl] at k h1; omega
  · rintro ⟨h1, h2⟩
    unfold y_far at h1
    rcases (show (o % 20 = c % 20 + 1 ∧ o / 20 = c / 20) ∨ (o % 20 = c % 20 + 1 ∧ o / 20 = c / 20 + 1) ∨ (o % 20 = c % 20 ∧ o / 20 = c / 20 + 1) ∨ (o % 20 + 1 = c % 20 ∧ o / 20 = c / 20 + 1) ∨ (o % 20 + 1 = c % 20 ∧ o / 20 = c / 20) ∨ (o % 20 + 1 = c % 20 ∧ o / 20 + 1 = c / 20) ∨ (o % 20 = c % 20 ∧ o / 20 + 1 = c / 20) ∨ (o % 20 = c % 20 + 1 ∧ o / 20 + 1 = c / 20) by omega) with h | h | h | h | h | h | h | h
    · have e1 : y_dx 0 = 1 := rfl
      have e2 : y_dy 0 = 0 := rfl
      exact mk 0 (by decide) (by rw [e1, e2]; omega) (by rw [e1]; omega) (by rw [e1]; omega) (by rw [e2]; omega) (by rw [e2]; omega)
    · have e1 : y_dx 1 = 1 := rfl
      have e2 : y_dy 1 = 1 := rfl
      exact mk 1 (by decide) (by rw [e1, e2]; omega) (by rw [e1]; omega) (by rw [e1]; omega) (by rw [e2]; omega) (by rw [e2]; omega)
    · have e1 : y_dx 2 = 0 := rfl
      have e2 : y_dy 2 = 1 := rfl
      exact mk 2 (by decide) (by rw [e1, e2]; omega) (by rw [e1]; omega) (by rw [e1]; omega) (by rw [e2]; omega) (by rw [e2]; omega)
    · have e1 : y_dx 3 = -1 := rfl
      have e2 : y_dy 3 = 1 := rfl
      exact mk 3 (by decide) (by rw [e1, e2]; omega) (by rw [e1]; omega) (by rw [e1]; omega) (by rw [e2]; omega) (by rw [e2]; omega)
    · have e1 : y_dx 4 = -1 := rfl
      have e2 : y_dy 4 = 0 := rfl
      exact mk 4 (by decide) (by rw [e1, e2]; omega) (by rw [e1]; omega) (by rw [e1]; omega) (by rw [e2]; omega) (by rw [e2]; omega)
    · have e1 : y_dx 5 = -1 := rfl
      have e2 : y_dy 5 = -1 := rfl
      exact mk 5 (by decide) (by rw [e1, e2]; omega) (by rw [e1]; omega) (by rw [e1]; omega) (by rw [e2]; omega) (by rw [e2]; omega)
    · have e1 : y_dx 6 = 0 := rfl
      have e2 : y_dy 6 = -1 := rfl
      exact mk 6 (by decide) (by rw [e1, e2]; omega) (by rw [e1]; omega) (by rw [e1]; omega) (by rw [e2]; omega) (by rw [e2]; omega)
    · have e1 : y_dx 7 = 1 := rfl
      have e2 : y_dy 7 = -1 := rfl
      exact mk 7 (by decide) (by rw [e1, e2]; omega) (by rw [e1]; omega) (by rw [e1]; omega) (by rw [e2]; omega) (by rw [e2]; omega)
