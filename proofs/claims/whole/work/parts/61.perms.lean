/-! orders by numbers -/
def y_fm (g : Nat → List (List Nat)) : Nat → Nat → List (List Nat)
  | 0, _ => []
  | j + 1, d => g d ++ y_fm g j (d + 1)
def y_cmp (n : Nat) : Nat → Nat → List Nat → List (List Nat)
  | 0, _, pre => [pre]
  | k + 1, u, pre => y_fm (fun s => if u.testBit s = true then [] else y_cmp n k (u ||| 1 <<< s) (pre ++ [s])) n 0
def y_ni (l : List Nat) : Nat → Option Nat
  | 0 => none
  | i + 1 => if l.getD i 0 ≤ l.getD (i + 1) 0 then some i else y_ni l i
def y_nj (l : List Nat) (x : Nat) : Nat → Nat
  | 0 => 0
  | j + 1 => if x ≤ l.getD j 0 then j else y_nj l x j
def y_sw (l : List Nat) (a b : Nat) : List Nat := (l.set a (l.getD b 0)).set b (l.getD a 0)
def y_rv : Nat → List Nat → Nat → Nat → List Nat
  | 0, l, _, _ => l
  | k + 1, l, a, b => if b ≤ a then l else y_rv k (y_sw l a b) (a + 1) (b - 1)
def y_nxt (n : Nat) (l : List Nat) : Option (List Nat) := match y_ni l (n - 1) with
  | none => none
  | some i => some (y_rv n (y_sw l i (y_nj l (l.getD i 0) n)) (i + 1) (n - 1))
def y_chk (n : Nat) : List (List Nat) → Bool
  | [] => true
  | [l] => (y_nxt n l).isNone
  | l :: l' :: r => (y_nxt n l == some l') && y_chk n (l' :: r)
def y_prm (n : Nat) : List (List Nat) := y_cmp n n 0 []
theorem y_chk0 : y_chk 0 (y_prm 0) = true := by decide +kernel
theorem y_chk1 : y_chk 1 (y_prm 1) = true := by decide +kernel
theorem y_chk2 : y_chk 2 (y_prm 2) = true := by decide +kernel
theorem y_chk3 : y_chk 3 (y_prm 3) = true := by decide +kernel
theorem y_chk4 : y_chk 4 (y_prm 4) = true := by decide +kernel
theorem y_chk5 : y_chk 5 (y_prm 5) = true := by decide +kernel
theorem y_chk6 : y_chk 6 (y_prm 6) = true := by decide +kernel
theorem y_chk7 : y_chk 7 (y_prm 7) = true := by decide +kernel
theorem y_chk_all {n : Nat} (h : n ≤ 7) : y_chk n (y_prm n) = true := by
  rcases (show n = 0 ∨ n = 1 ∨ n = 2 ∨ n = 3 ∨ n = 4 ∨ n = 5 ∨ n = 6 ∨ n = 7 by omega) with rfl | rfl | rfl | rfl | rfl | rfl | rfl | rfl
  · exact y_chk0
  · exact y_chk1
  · exact y_chk2
  · exact y_chk3
  · exact y_chk4
  · exact y_chk5
  · exact y_chk6
  · exact y_chk7
theorem y_len0 : decide ((y_prm 0).length ≤ 5040) = true := by decide +kernel
theorem y_len1 : decide ((y_prm 1).length ≤ 5040) = true := by decide +kernel
theorem y_len2 : decide ((y_prm 2).length ≤ 5040) = true := by decide +kernel
theorem y_len3 : decide ((y_prm 3).length ≤ 5040) = true := by decide +kernel
theorem y_len4 : decide ((y_prm 4).length ≤ 5040) = true := by decide +kernel
theorem y_len5 : decide ((y_prm 5).length ≤ 5040) = true := by decide +kernel
theorem y_len6 : decide ((y_prm 6).length ≤ 5040) = true := by decide +kernel
theorem y_len7 : decide ((y_prm 7).length ≤ 5040) = true := by decide +kernel
theorem y_len_all {n : Nat} (h : n ≤ 7) : (y_prm n).length ≤ 5040 := by
  rcases (show n = 0 ∨ n = 1 ∨ n = 2 ∨ n = 3 ∨ n = 4 ∨ n = 5 ∨ n = 6 ∨ n = 7 by omega) with rfl | rfl | rfl | rfl | rfl | rfl | rfl | rfl
  · exact of_decide_eq_true y_len0
  · exact of_decide_eq_true y_len1
  · exact of_decide_eq_true y_len2
  · exact of_decide_eq_true y_len3
  · exact of_decide_eq_true y_len4
  · exact of_decide_eq_true y_len5
  · exact of_decide_eq_true y_len6
  · exact of_decide_eq_true y_len7
