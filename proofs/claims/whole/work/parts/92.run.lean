section ZUE
variable {L : Nat} {xs : Nat → Int32} {cs : List z_C} {n sl : Nat}
def y_S0 (xs : Nat → Int32) (a : Nat) : Nat → Int32 := if a = 0 then xs else if a = 1 then z_dx else if a = 2 then z_dy else if a = 4 then z_wb else if a = 8 then (fun i => if i = 4 then 4 else 0) else if a = 19 then (fun i => if i = 3 then -1 else 0) else if a = 28 then (fun i => if i = 9 then 1 else 0) else if a = 39 then y_m8 else if a = 41 then y_m4 else if a = 52 then (fun i => if i = 11 then 4 else if i = 50 then -1 else 0) else if a = 77 then y_m9b else fun _ => 0
def y_D0 (_ : Nat) : z_Sh := .inl (99, 0)
def y_R0 (_ _ : Nat) : Option Nat := none
def y_L0 : List z_C := (y_C1 ++ y_O 52 :: y_A1) ++ .inl (0, 8, y_m9b) :: y_A2
theorem y_L0n : y_L0.length = 81 := rfl
theorem y_c0_0 {a : Nat} (h1 : 0 ≤ a) (h2 : a < 29) : (if a < 6 then z_cel0 L xs a else y_L0.getD (a - 6) z_junk) = z_cell (z_shp L y_D0 a) (y_S0 xs a) (y_R0 a) := by
  rcases (show a = 0 ∨ a = 1 ∨ a = 2 ∨ a = 3 ∨ a = 4 ∨ a = 5 ∨ a = 6 ∨ a = 7 ∨ a = 8 ∨ a = 9 ∨ a = 10 ∨ a = 11 ∨ a = 12 ∨ a = 13 ∨ a = 14 ∨ a = 15 ∨ a = 16 ∨ a = 17 ∨ a = 18 ∨ a = 19 ∨ a = 20 ∨ a = 21 ∨ a = 22 ∨ a = 23 ∨ a = 24 ∨ a = 25 ∨ a = 26 ∨ a = 27 ∨ a = 28 by omega) with rfl | rfl | rfl | rfl | rfl | rfl | rfl | rfl | rfl | rfl | rfl | rfl | rfl | rfl | rfl | rfl | rfl | rfl | rfl | rfl | rfl | rfl | rfl | rfl | rfl | rfl | rfl | rfl | rfl
  · rfl
  · rfl
  · rfl
  · rfl
  · rfl
  · rfl
  · rfl
  · rfl
  · rfl
  · rfl
  · rfl
  · rfl
  · rfl
  · rfl
  · rfl
  · rfl
  · rfl
  · rfl
  · rfl
  · rfl
  · rfl
  · rfl
  · rfl
  · rfl
  · rfl
  · rfl
  · rfl
  · rfl
  · rfl
theorem y_c0_29 {a : Nat} (h1 : 29 ≤ a) (h2 : a < 58) : (if a < 6 then z_cel0 L xs a else y_L0.getD (a - 6) z_junk) = z_cell (z_shp L y_D0 a) (y_S0 xs a) (y_R0 a) := by
  rcases (show a = 29 ∨ a = 30 ∨ a = 31 ∨ a = 32 ∨ a = 33 ∨ a = 34 ∨ a = 35 ∨ a = 36 ∨ a = 37 ∨ a = 38 ∨ a = 39 ∨ a = 40 ∨ a = 41 ∨ a = 42 ∨ a = 43 ∨ a = 44 ∨ a = 45 ∨ a = 46 ∨ a = 47 ∨ a = 48 ∨ a = 49 ∨ a = 50 ∨ a = 51 ∨ a = 52 ∨ a = 53 ∨ a = 54 ∨ a = 55 ∨ a = 56 ∨ a = 57 by omega) with rfl | rfl | rfl | rfl | rfl | rfl | rfl | rfl | rfl | rfl | rfl | rfl | rfl | rfl | rfl | rfl | rfl | rfl | rfl | rfl | rfl | rfl | rfl | rfl | rfl | rfl | rfl | rfl | rfl
  · rfl
  · rfl
  · rfl
  · rfl
  · rfl
  · rfl
  · rfl
  · rfl
  · rfl
  · rfl
  · rfl
  · rfl
  · rfl
  · rfl
  · rfl
  · rfl
  · rfl
  · rfl
  · rfl
  · rfl
  · rfl
  · rfl
  · rfl
  · rfl
  · rfl
  · rfl
  · rfl
  · rfl
  · rfl
theorem y_c0_58 {a : Nat} (h1 : 58 ≤ a) (h2 : a < 87) : (if a < 6 then z_cel0 L xs a else y_L0.getD (a - 6) z_junk) = z_cell (z_shp L y_D0 a) (y_S0 xs a) (y_R0 a) := by
  rcases (show a = 58 ∨ a = 59 ∨ a = 60 ∨ a = 61 ∨ a = 62 ∨ a = 63 ∨ a = 64 ∨ a = 65 ∨ a = 66 ∨ a = 67 ∨ a = 68 ∨ a = 69 ∨ a = 70 ∨ a = 71 ∨ a = 72 ∨ a = 73 ∨ a = 74 ∨ a = 75 ∨ a = 76 ∨ a = 77 ∨ a = 78 ∨ a = 79 ∨ a = 80 ∨ a = 81 ∨ a = 82 ∨ a = 83 ∨ a = 84 ∨ a = 85 ∨ a = 86 by omega) with rfl | rfl | rfl | rfl | rfl | rfl | rfl | rfl | rfl | rfl | rfl | rfl | rfl | rfl | rfl | rfl | rfl | rfl | rfl | rfl | rfl | rfl | rfl | rfl | rfl | rfl | rfl | rfl | rfl
  · rfl
  · rfl
  · rfl
  · rfl
  · rfl
  · rfl
  · rfl
  · rfl
  · rfl
  · rfl
  · rfl
  · rfl
  · rfl
  · rfl
  · rfl
  · rfl
  · rfl
  · rfl
  · rfl
  · rfl
  · rfl
  · rfl
  · rfl
  · rfl
  · rfl
  · rfl
  · rfl
  · rfl
  · rfl
theorem y_mk0 : y_Hm L xs y_C1 52 sl y_m9b = z_mk L y_D0 (y_S0 xs) y_R0 87 sl := by
  unfold y_Hm z_hl z_mk
  refine Prod.ext rfl (Prod.ext rfl (funext fun a => ?_))
  show (if a < 6 then z_cel0 L xs a else y_L0.getD (a - 6) z_junk) = z_cell (z_shp L y_D0 a) (y_S0 xs a) (y_R0 a)
  by_cases h1 : a < 29
  · exact y_c0_0 (by omega) h1
  · by_cases h2 : a < 58
    · exact y_c0_29 (by omega) h2
    · by_cases h3 : a < 87
      · exact y_c0_58 (by omega) h3
      · rw [if_neg (by omega), List.getD_eq_getElem?_getD, List.getElem?_eq_none (by rw [y_L0n]; omega)]
        have e : y_S0 xs a = fun _ => 0 := by
          unfold y_S0
          rw [if_neg (by omega), if_neg (by omega), if_neg (by omega), if_neg (by omega), if_neg (by omega), if_neg (by omega), if_neg (by omega), if_neg (by omega), if_neg (by omega), if_neg (by omega), if_neg (by omega)]
        rw [e]
        unfold z_shp
        rw [if_neg h3]
        rfl
theorem hl_nulG {α : Type} (h : 6 ≤ n) {f : Bool → Option α} : (z_nul (some n)).bind f = f false := by
  rw [z_nulS h]
  rfl
theorem y_run0 : z_cI 64 233 [.inr (.inr (some 0))] (z_h0 L xs) = L233_18 (some 0) (some 6) (some 52) 0 (y_Hm L xs y_C1 52 4385 y_m9b) := by
  rw [E233, hl_0]
  refine (hl_nulG (by rw [hl_1]; omega)).trans ?_
  refine (if_pos rfl).trans ?_
  refine (hl_sub (h := z_hl L xs y_C1 909) ?_).trans ?_
  · rw [hl_new (fs := [.inr (.inr none), .inr (.inr none), .inr (.inr none), .inr (.inr none), .inr (.inr none), .inr (.inr none), .inr (.inr none), .inr (.inr none)]) (q := 8) rfl rfl]
    exact C80
  refine (hl_nulG (n := (z_hl L xs y_C1 909).1) (by rw [hl_1]; omega)).trans ?_
  refine (if_pos rfl).trans ?_
  exact hl_sub (CN130 (n := 52) rfl)
theorem y_z0 {a : Nat} (h : a ≠ 0 ∧ a ≠ 1 ∧ a ≠ 2 ∧ a ≠ 4 ∧ a ≠ 8 ∧ a ≠ 19 ∧ a ≠ 28 ∧ a ≠ 39 ∧ a ≠ 41 ∧ a ≠ 52 ∧ a ≠ 77) (i : Nat) : y_S0 xs a i = 0 := by
  obtain ⟨h1, h2, h3, h4, h5, h6, h7, h8, h9, h10, h11⟩ := h
  unfold y_S0
  rw [if_neg h1, if_neg h2, if_neg h3, if_neg h4, if_neg h5, if_neg h6, if_neg h7, if_neg h8, if_neg h9, if_neg h10, if_neg h11]
theorem y_m89 : ∀ i, i < 8 → y_m8 i = y_m9b i ∧ -1 ≤ (y_m8 i).toInt ∧ (y_m8 i).toInt ≤ 99999 := by decide +kernel
theorem y_dir0 : ∀ d, d < 8 → z_dx d = y_sx d ∧ z_dy d = y_sy d := by decide +kernel
theorem z_bt0 (j : Nat) : z_bt 0 j = false := by
  unfold z_bt
  show (0#32).getLsbD j = false
  exact BitVec.getLsbD_zero
theorem y_bits0 {a b : Nat} (ha : ∀ i, y_S0 xs a i = 0) (hb : ∀ i, y_S0 xs b i = 0) : I_bits a b (y_S0 xs) := by
  refine ⟨fun c _ => ?_, fun y j _ _ => ?_⟩
  · rw [hb, ha, z_bt0]
    rfl
  · rw [ha, z_bt0]
theorem y_st0 : I_st (y_S0 xs) := by
  refine ⟨fun i _ => rfl, ⟨0, 0, by omega, by omega, rfl, rfl, rfl, rfl, rfl, (show (0 : Int) ≤ (0 : Int32).toInt by decide), (show (0 : Int32).toInt ≤ 999 by decide), fun i hi => absurd hi (Nat.not_lt_zero i), fun i hi => absurd hi (Nat.not_lt_zero i)⟩, ⟨rfl, (show (1 : Int) ≤ (4 : Int32).toInt by decide), (show (4 : Int32).toInt ≤ 20 by decide)⟩, y_m89, ⟨0, by omega, rfl, rfl, fun i hi => absurd hi (Nat.not_lt_zero i)⟩, ⟨0, by omega, rfl, rfl, fun i hi => absurd hi (Nat.not_lt_zero i)⟩, ⟨fun i _ => rfl, rfl⟩, ⟨0, by omega, rfl, rfl, fun i hi => absurd hi (Nat.not_lt_zero i)⟩, ⟨0, by omega, rfl, rfl, fun i hi => absurd hi (Nat.not_lt_zero i)⟩, ⟨0, by omega, rfl, ?_⟩, y_bits0 (fun _ => rfl) (fun _ => rfl), y_bits0 (fun _ => rfl) (fun _ => rfl), y_dir0, ⟨rfl, rfl, rfl, rfl, rfl, rfl, rfl, rfl⟩⟩
  show y_rc (y_S0 xs) 0 (some (0, 0, []))
  exact ⟨rfl, rfl, rfl, rfl, fun i hi => absurd hi (Nat.not_lt_zero i)⟩
theorem y_dy0 : I_dy 0 y_D0 (y_S0 xs) y_R0 87 := by
  refine ⟨⟨[], fun _ => 0, ⟨by decide, rfl, rfl, fun i hi => absurd hi (Nat.not_lt_zero i), fun i j _ hj => absurd hj (Nat.not_lt_zero j)⟩, fun i j _ hj => absurd hj (Nat.not_lt_zero j), ⟨0, by omega, rfl, Or.inl rfl, fun q => absurd q (show ¬ ((-1 : Int32) = nI 0) by decide)⟩⟩, ⟨[], fun _ => 0, by decide, rfl, rfl, fun i hi => absurd hi (Nat.not_lt_zero i)⟩, ⟨fun _ => none, fun c _ => ⟨rfl, rfl⟩, fun c d p q _ _ _ hp => (by cases hp), 0, by omega, rfl, rfl⟩⟩
theorem y_all0 : I_all 4385 xs 0 y_D0 (y_S0 xs) y_R0 87 4385 := ⟨y_st0, y_dy0, rfl, by omega, by omega, by omega⟩
theorem y_hrun (L : Nat) (xs : Nat → Int32) (hL : L ≤ 3584) : ∃ h' : z_H, z_cI 64 233 [.inr (.inr (some 0))] (z_h0 L xs) = some (1, h') ∧ h'.1 ≤ 600000 ∧ h'.2.1 ≤ 7302250 := by
  rw [y_run0, y_mk0]
  obtain ⟨h', e, b1, b2⟩ := U_loop (c0 := 4385) (s0 := xs) hL 512 0 (by omega) _ _ _ _ _ (y_all0 (xs := xs))
  exact ⟨h', e, by omega, by omega⟩
end ZUE
