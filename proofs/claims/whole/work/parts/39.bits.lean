/-! rows of bits -/
def z_bt (x : Int32) (j : Nat) : Bool := x.toBitVec.getLsbD j
theorem z_sm : ∀ j, j < 32 → ((nI j &&& 31).toBitVec.smod 32).toNat = j := by decide +kernel
theorem z_bt_or (x y : Int32) (j : Nat) : z_bt (x ||| y) j = (z_bt x j || z_bt y j) := by unfold z_bt; rw [Int32.toBitVec_or, BitVec.getLsbD_or]
theorem z_bt_and (x y : Int32) (j : Nat) : z_bt (x &&& y) j = (z_bt x j && z_bt y j) := by unfold z_bt; rw [Int32.toBitVec_and, BitVec.getLsbD_and]
theorem z_bt_xor (x y : Int32) (j : Nat) : z_bt (x ^^^ y) j = (z_bt x j ^^ z_bt y j) := by unfold z_bt; rw [Int32.toBitVec_xor, BitVec.getLsbD_xor]
theorem z_bt_ge {x : Int32} {j : Nat} (h : 32 ≤ j) : z_bt x j = false := BitVec.getLsbD_of_ge _ _ h
theorem z_bt_0 (j : Nat) : z_bt 0 j = false := by unfold z_bt; exact BitVec.getLsbD_zero
theorem z_bt_ext {x y : Int32} (h : ∀ j, j < 32 → z_bt x j = z_bt y j) : x = y := by
  apply Int32.toBitVec_inj.mp
  exact BitVec.eq_of_getLsbD_eq h
theorem z_bt_shr {x : Int32} {k j : Nat} (hk : k < 32) (hj : k + j < 32) : z_bt (x >>> (nI k &&& 31)) j = z_bt x (k + j) := by
  unfold z_bt
  rw [Int32.toBitVec_shiftRight, BitVec.sshiftRight', z_sm k hk, BitVec.getLsbD_sshiftRight, if_pos hj]
  simp only [show ¬ 32 ≤ j by omega, decide_false, Bool.not_false, Bool.true_and]
theorem z_bt_shl {x : Int32} {k j : Nat} (hk : k < 32) (hj : j < 32) : z_bt (x <<< (nI k &&& 31)) j = (decide (k ≤ j) && z_bt x (j - k)) := by
  unfold z_bt
  rw [Int32.toBitVec_shiftLeft, BitVec.shiftLeft_eq', z_sm k hk, BitVec.getLsbD_shiftLeft]
  by_cases h : j < k
  · simp only [hj, h, decide_true, Bool.not_true, Bool.and_false, Bool.false_and, show ¬ k ≤ j by omega, decide_false]
  · simp only [hj, h, decide_true, decide_false, Bool.not_false, Bool.true_and, show k ≤ j by omega]
theorem z_bt_1 : ∀ j, j < 32 → z_bt 1 j = decide (j = 0) := by decide +kernel
theorem z_bt_one {k j : Nat} (hk : k < 32) (hj : j < 32) : z_bt ((1 : Int32) <<< (nI k &&& 31)) j = decide (j = k) := by
  rw [z_bt_shl hk hj, z_bt_1 _ (by omega)]
  by_cases h : j = k
  · subst h; simp
  · by_cases h2 : k ≤ j
    · simp only [h2, decide_true, Bool.true_and, h, decide_false, decide_eq_false_iff_not]; omega
    · simp only [h2, decide_false, Bool.false_and, h]
/-- a bit, as it is asked for -/
theorem z_bt_ask {x : Int32} {k : Nat} (hk : k < 32) : ((x >>> (nI k &&& 31)) &&& (1 : Int32)) = 0 ↔ z_bt x k = false := by
  constructor
  · intro h
    have := congrArg (fun y => z_bt y 0) h
    simp only [z_bt_and, z_bt_0, z_bt_1 0 (by decide), z_bt_shr hk (show k + 0 < 32 by omega), Nat.add_zero, decide_true, Bool.and_true] at this
    exact this
  · intro h
    apply z_bt_ext
    intro j hj
    rw [z_bt_and, z_bt_0, z_bt_1 j hj]
    by_cases c : j = 0
    · subst c
      rw [z_bt_shr hk (by omega), Nat.add_zero, h]
      rfl
    · simp only [c, decide_false, Bool.and_false]
theorem z_cd : ∀ c, c < 400 → nI c / 20 = nI (c / 20) ∧ nI c - nI c / 20 * 20 = nI (c % 20) := by decide +kernel
/-- cells as bits and as booleans -/
def I_bits (a b : Nat) (S : Nat → Nat → Int32) : Prop := (∀ c, c < 400 → S b c = if z_bt (S a (c / 20)) (c % 20) = true then 1 else 0) ∧ ∀ y j, y < 20 → 20 ≤ j → z_bt (S a y) j = false
def I_cov (S : Nat → Nat → Int32) : Prop := I_bits 9 53 S
def I_saf (S : Nat → Nat → Int32) : Prop := I_bits 10 54 S
theorem I_bits_fr {a b : Nat} {S S' : Nat → Nat → Int32} (h : I_bits a b S) (e : S' a = S a ∧ S' b = S b) : I_bits a b S' := by
  unfold I_bits; rw [e.1, e.2]; exact h
theorem I_cov_fr {S S' : Nat → Nat → Int32} (h : I_cov S) (e : S' 9 = S 9 ∧ S' 53 = S 53) : I_cov S' := I_bits_fr h e
theorem I_saf_fr {S S' : Nat → Nat → Int32} (h : I_saf S) (e : S' 10 = S 10 ∧ S' 54 = S 54) : I_saf S' := I_bits_fr h e
def A_cov (a : Nat) : Bool := decide (a ∈ [7, 9, 53, 86])
def A_saf (a : Nat) : Bool := decide (a ∈ [7, 10, 54, 86])
section ZSB
variable {L : Nat} {Dh : Nat → z_Sh} {S : Nat → Nat → Int32} {R : Nat → Nat → Option Nat} {nx sl : Nat}
theorem z_no_cov {c : Int32} (h : I_cov S) : I_cov (z_no 86 (z_no 7 S c) c) := I_cov_fr h ⟨rfl, rfl⟩
theorem z_no_saf {c : Int32} (h : I_saf S) : I_saf (z_no 86 (z_no 7 S c) c) := I_saf_fr h ⟨rfl, rfl⟩
theorem M123 {c : Int32} {h : z_H} : z_cI 1 123 [.inl c] h = some (if c < 0 ∨ 400 ≤ c then 0 else 1, h) := by
  rw [E123]
  by_cases c1 : c < 0
  · rw [if_pos c1, if_pos (Or.inl c1)]
  · rw [if_neg c1]
    by_cases c2 : (400 : Int32) ≤ c
    · rw [if_pos c2, if_pos (Or.inr c2)]
    · rw [if_neg c2, if_neg (fun q => q.elim c1 c2)]
theorem M123n {c : Nat} (hc : c < 400) {h : z_H} : z_cI 1 123 [.inl (nI c)] h = some (1, h) := by
  rw [M123, if_neg (fun q => q.elim (nI_pos (by omega)) (nI_ge (b := 400) hc (by decide)))]
theorem M132 {c : Int32} {h : z_H} : z_cI 1 132 [.inr (.inr (some 52)), .inl c] h = some (if c < 0 ∨ 400 ≤ c then 0 else 1, h) := by
  rw [E132]
  by_cases c1 : c < 0
  · rw [if_pos c1, if_pos (Or.inl c1)]
  · rw [if_neg c1]
    by_cases c2 : (400 : Int32) ≤ c
    · rw [if_pos c2, if_pos (Or.inr c2)]
    · rw [if_neg c2, if_neg (fun q => q.elim c1 c2)]
/-- any row of 20 whole numbers -/
theorem M128 {a c : Nat} (ha : z_shp L Dh a = .inl (0, 20)) (hc : c < 400) : z_cI 2 128 [.inr (.inr (some a)), .inl (nI c)] (z_mk L Dh S R nx sl) = some (if z_bt (S a (c / 20)) (c % 20) = true then 1 else 0, z_mk L Dh S R nx sl) := by
  have h1 : z_in (nI (c / 20)) 20 = true := z_in_nI (by omega) (by decide)
  have h2 : (nI (c / 20)).toNatClampNeg = c / 20 := z_cl (by omega)
  rw [E128]
  simp only [M123n hc, z_bs, z_10, z_iF, (z_cd c hc).1, m_ldI ha (Or.inl rfl) h1, h2]
  rw [← (z_cd c hc).1, (z_cd c hc).2]
  by_cases c1 : z_bt (S a (c / 20)) (c % 20) = true
  · rw [if_pos c1, if_neg (fun q => by rw [z_bt_ask (by omega), c1] at q; cases q)]
  · rw [if_neg c1, if_pos ((z_bt_ask (by omega)).mpr (by revert c1; cases z_bt (S a (c / 20)) (c % 20) <;> simp))]
theorem M129 {a c : Nat} (ha : z_shp L Dh a = .inl (0, 20)) (hc : c < 400) (w : Int32) : z_cI 3 129 [.inr (.inr (some a)), .inl (nI c), .inl w] (z_mk L Dh S R nx sl) = if (if z_bt (S a (c / 20)) (c % 20) = true then 1 else 0) = w then some (0, z_mk L Dh S R nx sl) else some (1, z_mk L Dh (z_ups S a (c / 20) (S a (c / 20) ^^^ ((1 : Int32) <<< (nI (c % 20) &&& 31)))) R nx sl) := by
  have h1 : z_in (nI (c / 20)) 20 = true := z_in_nI (by omega) (by decide)
  have h2 : (nI (c / 20)).toNatClampNeg = c / 20 := z_cl (by omega)
  rw [E129]
  simp only [M123n hc, z_bs, z_10, z_iF, M128 ha hc]
  rw [(z_cd c hc).2, (z_cd c hc).1]
  simp only [m_ldI ha (Or.inl rfl) h1, h2, z_bs, m_stI ha h1]
  by_cases c1 : (if z_bt (S a (c / 20)) (c % 20) = true then (1 : Int32) else 0) = w
  · rw [if_pos c1, if_neg (fun q => q c1)]
  · rw [if_neg c1, if_pos c1]
theorem z_bits_flip {a b : Nat} (hab : a ≠ b) (h : I_bits a b S) {c : Nat} (hc : c < 400) {w : Int32} (hw : w = 0 ∨ w = 1) (hne : ¬ (if z_bt (S a (c / 20)) (c % 20) = true then 1 else 0) = w) : I_bits a b (z_ups (z_ups S a (c / 20) (S a (c / 20) ^^^ ((1 : Int32) <<< (nI (c % 20) &&& 31)))) b c w) := by
  have ex : ∀ y j, y < 20 → j < 32 → z_ups (z_ups S a (c / 20) (S a (c / 20) ^^^ ((1 : Int32) <<< (nI (c % 20) &&& 31)))) b c w a y = (if y = c / 20 then S a (c / 20) ^^^ ((1 : Int32) <<< (nI (c % 20) &&& 31)) else S a y) := fun y j hy hj => by
    rw [z_upsE, if_neg hab, z_upsE, if_pos rfl]
  refine ⟨fun d hd => ?_, fun y j hy hj => ?_⟩
  · rw [ex (d / 20) 0 (by omega) (by omega), z_upsE, if_pos rfl, z_upsE, if_neg (fun q : b = a => hab q.symm)]
    by_cases e : d = c
    · subst e
      rw [if_pos rfl, if_pos rfl, z_bt_xor, z_bt_one (by omega) (by omega)]
      revert hne
      cases z_bt (S a (d / 20)) (d % 20) <;> rcases hw with rfl | rfl <;> simp
    · rw [if_neg e, h.1 d hd]
      by_cases e2 : d / 20 = c / 20
      · rw [if_pos e2, z_bt_xor, z_bt_one (by omega) (by omega), e2]
        have : ¬ d % 20 = c % 20 := by omega
        simp only [this, decide_false, Bool.xor_false]
      · rw [if_neg e2]
  · by_cases hj32 : 32 ≤ j
    · exact z_bt_ge hj32
    · rw [ex y j hy (by omega)]
      by_cases e : y = c / 20
      · rw [if_pos e, z_bt_xor, z_bt_one (by omega) (by omega), h.2 (c / 20) j (by omega) hj]
        have : ¬ j = c % 20 := by omega
        simp only [this, decide_false, Bool.xor_false]
      · rw [if_neg e]; exact h.2 y j hy hj
theorem z_shS9 : z_shp L Dh 9 = .inl (0, 20) := rfl
theorem z_shS10 : z_shp L Dh 10 = .inl (0, 20) := rfl

theorem M81 {c w : Int32} : z_cI 4 81 [.inr (.inr (some 6)), .inl c, .inl w] (z_mk L Dh S R nx sl) = if c < 0 ∨ 400 ≤ c then some (-1, z_mk L Dh (z_no 7 S (-1)) R nx sl) else z_cI 3 129 [.inr (.inr (some 9)), .inl c, .inl w] (z_mk L Dh S R nx sl) := by
  rw [E81]
  simp only [M123, z_bs, M122 z_code1, o_6, g_6_1, g_8_0]
  by_cases c1 : c < 0 ∨ 400 ≤ c
  · simp only [c1, z_iT, not_true, z_iF]
  · simp only [c1, z_iF, z_10, not_false_eq_true, z_iT]
    cases z_cI 3 129 [.inr (.inr (some 9)), .inl c, .inl w] (z_mk L Dh S R nx sl) with
    | none => rfl
    | some p => rfl
theorem M139 {c : Nat} (hc : c < 400) {w : Int32} (hw : w = 0 ∨ w = 1) : z_cI 2 139 [.inr (.inr (some 52)), .inl (nI c), .inl w] (z_mk L Dh S R nx sl) = if S 53 c = w then some (0, z_mk L Dh S R nx sl) else some (1, z_mk L Dh (z_ups S 53 c w) R nx sl) := by
  have h1 : z_in (nI c) 400 = true := z_in_nI hc (by decide)
  have h2 : (nI c).toNatClampNeg = c := z_cl (by omega)
  rw [E139]
  have e : ¬ (nI c < 0 ∨ 400 ≤ nI c) := fun q => q.elim (nI_pos (by omega)) (nI_ge (b := 400) hc (by decide))
  simp only [o_52, z_bs, M132, e, z_iF, z_10, not_false_eq_true, z_iT, g_52_0, l_53 h1, s_53 h1 hw, h2]
  by_cases c1 : S 53 c = w
  · rw [if_pos c1, if_neg (fun q => q c1)]
  · rw [if_neg c1, if_pos c1]
theorem M139n {c w : Int32} (hc : c < 0 ∨ 400 ≤ c) : z_cI 2 139 [.inr (.inr (some 52)), .inl c, .inl w] (z_mk L Dh S R nx sl) = some (-1, z_mk L Dh (z_no 86 S (-1)) R nx sl) := by
  rw [E139]
  simp only [o_52, z_bs, M132, hc, z_iT, not_true, z_iF, M131 z_code1]
theorem S_cover (h_I_ref : I_ref S) (h_I_cov : I_cov S) (c : Int32) {w : Int32} (hw : w = 0 ∨ w = 1) : z_R2 (fun h => z_cI 4 81 [.inr (.inr (some 6)), .inl c, .inl w] h) (fun h => z_cI 2 139 [.inr (.inr (some 52)), .inl c, .inl w] h) L Dh S R nx sl A_cov K_0 (fun S' => I_ref S' ∧ I_cov S') := by
  by_cases d1 : c < 0 ∨ 400 ≤ c
  · refine z_R2_no z_code1 rfl rfl h_I_ref ?_ ?_ ⟨z_no_ref h_I_ref z_code1, z_no_cov h_I_cov⟩
    · show z_cI 4 81 _ _ = _
      rw [M81, if_pos d1]
    · show z_cI 2 139 _ _ = _
      rw [M139n d1]
  · obtain ⟨n, hn, rfl⟩ := z_plc (n := 400) (by omega) (fun q => d1 (Or.inl q)) (fun q => d1 (Or.inr q))
    have e := h_I_cov.1 n hn
    by_cases d2 : (if z_bt (S 9 (n / 20)) (n % 20) = true then 1 else 0) = w
    · refine z_R2_q (r := 0) ?_ ?_ ⟨h_I_ref, h_I_cov⟩
      · show z_cI 4 81 _ _ = _
        rw [M81, if_neg d1, M129 z_shS9 hn, if_pos d2]
      · show z_cI 2 139 _ _ = _
        rw [M139 hn hw, e, if_pos d2]
    · refine ⟨1, z_ups S 9 (n / 20) (S 9 (n / 20) ^^^ ((1 : Int32) <<< (nI (n % 20) &&& 31))), z_ups (z_ups S 9 (n / 20) (S 9 (n / 20) ^^^ ((1 : Int32) <<< (nI (n % 20) &&& 31)))) 53 n w, ?_, ?_, z_fr_ups (z_fr_ups z_fr_id rfl (by decide)) rfl (by decide), I_ref_fr h_I_ref ⟨rfl, rfl⟩, z_bits_flip (by decide) h_I_cov hn hw d2⟩
      · show z_cI 4 81 _ _ = _
        rw [M81, if_neg d1, M129 z_shS9 hn, if_neg d2]
      · show z_cI 2 139 _ _ = _
        have e2 : z_ups S 9 (n / 20) (S 9 (n / 20) ^^^ ((1 : Int32) <<< (nI (n % 20) &&& 31))) 53 n = _ := e
        rw [M139 hn hw, e2, if_neg d2]
theorem M82 {c w : Int32} : z_cI 4 82 [.inr (.inr (some 6)), .inl c, .inl w] (z_mk L Dh S R nx sl) = if c < 0 ∨ 400 ≤ c then some (-1, z_mk L Dh (z_no 7 S (-1)) R nx sl) else z_cI 3 129 [.inr (.inr (some 10)), .inl c, .inl w] (z_mk L Dh S R nx sl) := by
  rw [E82]
  simp only [M123, z_bs, M122 z_code1, o_6, g_6_1, g_8_1]
  by_cases c1 : c < 0 ∨ 400 ≤ c
  · simp only [c1, z_iT, not_true, z_iF]
  · simp only [c1, z_iF, z_10, not_false_eq_true, z_iT]
    cases z_cI 3 129 [.inr (.inr (some 10)), .inl c, .inl w] (z_mk L Dh S R nx sl) with
    | none => rfl
    | some p => rfl
theorem M140 {c : Nat} (hc : c < 400) {w : Int32} (hw : w = 0 ∨ w = 1) : z_cI 2 140 [.inr (.inr (some 52)), .inl (nI c), .inl w] (z_mk L Dh S R nx sl) = if S 54 c = w then some (0, z_mk L Dh S R nx sl) else some (1, z_mk L Dh (z_ups S 54 c w) R nx sl) := by
  have h1 : z_in (nI c) 400 = true := z_in_nI hc (by decide)
  have h2 : (nI c).toNatClampNeg = c := z_cl (by omega)
  rw [E140]
  have e : ¬ (nI c < 0 ∨ 400 ≤ nI c) := fun q => q.elim (nI_pos (by omega)) (nI_ge (b := 400) hc (by decide))
  simp only [o_52, z_bs, M132, e, z_iF, z_10, not_false_eq_true, z_iT, g_52_1, l_54 h1, s_54 h1 hw, h2]
  by_cases c1 : S 54 c = w
  · rw [if_pos c1, if_neg (fun q => q c1)]
  · rw [if_neg c1, if_pos c1]
theorem M140n {c w : Int32} (hc : c < 0 ∨ 400 ≤ c) : z_cI 2 140 [.inr (.inr (some 52)), .inl c, .inl w] (z_mk L Dh S R nx sl) = some (-1, z_mk L Dh (z_no 86 S (-1)) R nx sl) := by
  rw [E140]
  simp only [o_52, z_bs, M132, hc, z_iT, not_true, z_iF, M131 z_code1]
theorem S_safe (h_I_ref : I_ref S) (h_I_saf : I_saf S) (c : Int32) {w : Int32} (hw : w = 0 ∨ w = 1) : z_R2 (fun h => z_cI 4 82 [.inr (.inr (some 6)), .inl c, .inl w] h) (fun h => z_cI 2 140 [.inr (.inr (some 52)), .inl c, .inl w] h) L Dh S R nx sl A_saf K_0 (fun S' => I_ref S' ∧ I_saf S') := by
  by_cases d1 : c < 0 ∨ 400 ≤ c
  · refine z_R2_no z_code1 rfl rfl h_I_ref ?_ ?_ ⟨z_no_ref h_I_ref z_code1, z_no_saf h_I_saf⟩
    · show z_cI 4 82 _ _ = _
      rw [M82, if_pos d1]
    · show z_cI 2 140 _ _ = _
      rw [M140n d1]
  · obtain ⟨n, hn, rfl⟩ := z_plc (n := 400) (by omega) (fun q => d1 (Or.inl q)) (fun q => d1 (Or.inr q))
    have e := h_I_saf.1 n hn
    by_cases d2 : (if z_bt (S 10 (n / 20)) (n % 20) = true then 1 else 0) = w
    · refine z_R2_q (r := 0) ?_ ?_ ⟨h_I_ref, h_I_saf⟩
      · show z_cI 4 82 _ _ = _
        rw [M82, if_neg d1, M129 z_shS10 hn, if_pos d2]
      · show z_cI 2 140 _ _ = _
        rw [M140 hn hw, e, if_pos d2]
    · refine ⟨1, z_ups S 10 (n / 20) (S 10 (n / 20) ^^^ ((1 : Int32) <<< (nI (n % 20) &&& 31))), z_ups (z_ups S 10 (n / 20) (S 10 (n / 20) ^^^ ((1 : Int32) <<< (nI (n % 20) &&& 31)))) 54 n w, ?_, ?_, z_fr_ups (z_fr_ups z_fr_id rfl (by decide)) rfl (by decide), I_ref_fr h_I_ref ⟨rfl, rfl⟩, z_bits_flip (by decide) h_I_saf hn hw d2⟩
      · show z_cI 4 82 _ _ = _
        rw [M82, if_neg d1, M129 z_shS10 hn, if_neg d2]
      · show z_cI 2 140 _ _ = _
        have e2 : z_ups S 10 (n / 20) (S 10 (n / 20) ^^^ ((1 : Int32) <<< (nI (n % 20) &&& 31))) 54 n = _ := e
        rw [M140 hn hw, e2, if_neg d2]
end ZSB
