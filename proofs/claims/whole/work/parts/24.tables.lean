theorem z_upsE (S : Nat → Nat → Int32) (a i : Nat) (x : Int32) (b j : Nat) : z_ups S a i x b j = if b = a then (if j = i then x else S b j) else S b j := by
  unfold z_ups z_upi
  by_cases hb : b = a
  · rw [if_pos hb, if_pos hb]
  · rw [if_neg hb, if_neg hb]
theorem z_bs {α β : Type} (x : α) (f : α → Option β) : (some x).bind f = f x := (Option.bind_some x f).trans (Eq.refl _)
theorem z_iT {α : Type} (a b : α) : (if True then a else b) = a := (if_pos trivial).trans (Eq.refl _)
theorem z_iF {α : Type} (a b : α) : (if False then a else b) = b := (if_neg id).trans (Eq.refl _)
section ZTB
variable {L : Nat} {Dh : Nat → z_Sh} {S : Nat → Nat → Int32} {R : Nat → Nat → Option Nat} {nx sl : Nat}
theorem M65 {g v st : Int32} (hn : z_in (S 42 11) 20 = true) : z_cI 1 65 [.inr (.inr (some 42)), .inl g, .inl v, .inl st] (z_mk L Dh S R nx sl) = some (S 42 11 + 1 - 1, z_mk L Dh (z_ups (z_ups (z_ups (z_ups (z_ups S 48 (S 42 11).toNatClampNeg g) 49 (S 42 11).toNatClampNeg v) 50 (S 42 11).toNatClampNeg st) 51 (S 42 11).toNatClampNeg (S 42 0)) 42 11 (S 42 11 + 1)) R nx sl) := by
  rw [E65]
  simp only [g_42_0, g_42_7, g_42_8, g_42_9, g_42_10, g_42_11, p_42_11, z_bs, s_48 hn, z_upsE, Nat.reduceEqDiff, z_iF, z_iT, s_49, s_50, s_51, hn]
end ZTB
