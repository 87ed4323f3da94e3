/-! the instructions, one by one -/
section ZXX
variable {α : Type} {κ : z_R → Option α} {d y pc pc' : Nat} {L : z_L} {S : List z_V} {h : z_H}
theorem z_jmp_of {off : Int} {t : Nat} (ht : (pc : Int) + off = (t : Int)) : z_jmp pc off L S h = z_go t L S h := by
  unfold z_jmp z_tgt
  rw [if_pos (by omega), ht]
  rfl
theorem z_br_of {off : Int} {t : Nat} {b : Bool} (ht : (pc : Int) + off = (t : Int)) : z_br pc off b L S h = if b = true then z_go t L S h else z_go (pc + 3) L S h := by
  unfold z_br z_tgt
  rw [if_pos (by omega), ht]
  rfl
theorem z_st_go {L' : z_L} {S' : List z_V} {h' : z_H} : z_st κ d y (z_go pc' L' S' h') h = z_bg κ d y pc' L' S' h' := rfl
theorem z_st_bind {β : Type} {o : Option β} {f : β → Option z_A} : z_st κ d y (o.bind f) h = o.bind fun x => z_st κ d y (f x) h := by
  cases o with
  | none => rfl
  | some x => rfl
theorem z_st_ite {c : Prop} [Decidable c] {a b : Option z_A} : z_st κ d y (if c then a else b) h = if c then z_st κ d y a h else z_st κ d y b h := by
  by_cases hc : c
  · rw [if_pos hc, if_pos hc]
  · rw [if_neg hc, if_neg hc]
theorem X_iconst {n : Int} {v : Int32} (hv : Int32.ofInt n = v) (hp : pc + 1 = pc') : z_st κ d y (z_do y pc (.iconst n) L (S) h) h = z_bg κ d y pc' L (.inl v :: S) h := by
  subst hp; subst hv; rfl
theorem X_bipush {n : Int} {v : Int32} (hv : (Int8.ofInt n).toInt32 = v) (hp : pc + 2 = pc') : z_st κ d y (z_do y pc (.bipush n) L (S) h) h = z_bg κ d y pc' L (.inl v :: S) h := by
  subst hp; subst hv; rfl
theorem X_sipush {n : Int} {v : Int32} (hv : (Int16.ofInt n).toInt32 = v) (hp : pc + 3 = pc') : z_st κ d y (z_do y pc (.sipush n) L (S) h) h = z_bg κ d y pc' L (.inl v :: S) h := by
  subst hp; subst hv; rfl
theorem X_ldc {n : Nat} {v : Int32} (hs : z_str y n = false) (hv : z_cst y n = some v) (hp : pc + 2 = pc') : z_st κ d y (z_do y pc (.ldc n) L (S) h) h = z_bg κ d y pc' L (.inl v :: S) h := by
  subst hp; simp only [z_do, hs, hv]; rfl
theorem X_ldcS {n : Nat} (hs : z_str y n = true) (hp : pc + 2 = pc') : z_st κ d y (z_do y pc (.ldc n) L (S) h) h = z_bg κ d y pc' L (.inr (.inr (some 3)) :: S) h := by
  subst hp; simp only [z_do, hs]; rfl
theorem X_ldc_w {n : Nat} {v : Int32} (hv : z_cst y n = some v) (hp : pc + 3 = pc') : z_st κ d y (z_do y pc (.ldc_w n) L (S) h) h = z_bg κ d y pc' L (.inl v :: S) h := by
  subst hp; simp only [z_do, hv]; rfl
theorem X_ldc2_w {n : Nat} {v : Int64} (hv : z_clg y n = some v) (hp : pc + 3 = pc') : z_st κ d y (z_do y pc (.ldc2_w n) L (S) h) h = z_bg κ d y pc' L (.inr (.inl v) :: S) h := by
  subst hp; simp only [z_do, hv]; rfl
theorem X_aconst_null (hp : pc + 1 = pc') : z_st κ d y (z_do y pc (.aconst_null) L (S) h) h = z_bg κ d y pc' L (.inr (.inr none) :: S) h := by
  subst hp; rfl
theorem X_iload {n : Nat} {x : Int32} (hl : z_lI L n = some x) (hp : pc + 2 = pc') : z_st κ d y (z_do y pc (.iload n) L (S) h) h = z_bg κ d y pc' L (.inl x :: S) h := by
  subst hp; simp only [z_do, hl]; rfl
theorem X_iload_n {n : Fin 4} {x : Int32} (hl : z_lI L n = some x) (hp : pc + 1 = pc') : z_st κ d y (z_do y pc (.iload_n n) L (S) h) h = z_bg κ d y pc' L (.inl x :: S) h := by
  subst hp; simp only [z_do, hl]; rfl
theorem X_lload_n {n : Fin 4} {x : Int64} (hl : z_lJ L n = some x) (hp : pc + 1 = pc') : z_st κ d y (z_do y pc (.lload_n n) L (S) h) h = z_bg κ d y pc' L (.inr (.inl x) :: S) h := by
  subst hp; simp only [z_do, hl]; rfl
theorem X_aload {n : Nat} {x : Option Nat} (hl : z_lR L n = some x) (hp : pc + 2 = pc') : z_st κ d y (z_do y pc (.aload n) L (S) h) h = z_bg κ d y pc' L (.inr (.inr x) :: S) h := by
  subst hp; simp only [z_do, hl]; rfl
theorem X_aload_n {n : Fin 4} {x : Option Nat} (hl : z_lR L n = some x) (hp : pc + 1 = pc') : z_st κ d y (z_do y pc (.aload_n n) L (S) h) h = z_bg κ d y pc' L (.inr (.inr x) :: S) h := by
  subst hp; simp only [z_do, hl]; rfl
theorem X_istore {n : Nat} {x : Int32} {L' : z_L} (hl : z_set L n (.inl x) = some L') (hp : pc + 2 = pc') : z_st κ d y (z_do y pc (.istore n) L (.inl x :: S) h) h = z_bg κ d y pc' L' (S) h := by
  subst hp; simp only [z_do, z_stl, hl]; rfl
theorem X_istore_n {n : Fin 4} {x : Int32} {L' : z_L} (hl : z_set L n (.inl x) = some L') (hp : pc + 1 = pc') : z_st κ d y (z_do y pc (.istore_n n) L (.inl x :: S) h) h = z_bg κ d y pc' L' (S) h := by
  subst hp; simp only [z_do, z_stl, hl]; rfl
theorem X_astore {n : Nat} {x : Option Nat} {L' : z_L} (hl : z_set L n (.inr (.inr x)) = some L') (hp : pc + 2 = pc') : z_st κ d y (z_do y pc (.astore n) L (.inr (.inr x) :: S) h) h = z_bg κ d y pc' L' (S) h := by
  subst hp; simp only [z_do, z_stl, hl]; rfl
theorem X_astore_n {n : Fin 4} {x : Option Nat} {L' : z_L} (hl : z_set L n (.inr (.inr x)) = some L') (hp : pc + 1 = pc') : z_st κ d y (z_do y pc (.astore_n n) L (.inr (.inr x) :: S) h) h = z_bg κ d y pc' L' (S) h := by
  subst hp; simp only [z_do, z_stl, hl]; rfl
theorem X_iinc {n : Nat} {k : Int} {x v : Int32} {L' : z_L} (hx : z_lI L n = some x) (hv : Int32.ofInt k = v) (hl : z_set L n (.inl (x + v)) = some L') (hp : pc + 3 = pc') : z_st κ d y (z_do y pc (.iinc n k) L (S) h) h = z_bg κ d y pc' L' (S) h := by
  subst hp; subst hv; simp only [z_do, hx, Option.bind_some, hl]; rfl
theorem X_iadd {a b : Int32} (hp : pc + 1 = pc') : z_st κ d y (z_do y pc (.iadd) L (.inl b :: .inl a :: S) h) h = z_bg κ d y pc' L (.inl (a + b) :: S) h := by
  subst hp; rfl
theorem X_isub {a b : Int32} (hp : pc + 1 = pc') : z_st κ d y (z_do y pc (.isub) L (.inl b :: .inl a :: S) h) h = z_bg κ d y pc' L (.inl (a - b) :: S) h := by
  subst hp; rfl
theorem X_imul {a b : Int32} (hp : pc + 1 = pc') : z_st κ d y (z_do y pc (.imul) L (.inl b :: .inl a :: S) h) h = z_bg κ d y pc' L (.inl (a * b) :: S) h := by
  subst hp; rfl
theorem X_iand {a b : Int32} (hp : pc + 1 = pc') : z_st κ d y (z_do y pc (.iand) L (.inl b :: .inl a :: S) h) h = z_bg κ d y pc' L (.inl (a &&& b) :: S) h := by
  subst hp; rfl
theorem X_ior {a b : Int32} (hp : pc + 1 = pc') : z_st κ d y (z_do y pc (.ior) L (.inl b :: .inl a :: S) h) h = z_bg κ d y pc' L (.inl (a ||| b) :: S) h := by
  subst hp; rfl
theorem X_ixor {a b : Int32} (hp : pc + 1 = pc') : z_st κ d y (z_do y pc (.ixor) L (.inl b :: .inl a :: S) h) h = z_bg κ d y pc' L (.inl (a ^^^ b) :: S) h := by
  subst hp; rfl
theorem X_ishl {a b : Int32} (hp : pc + 1 = pc') : z_st κ d y (z_do y pc (.ishl) L (.inl b :: .inl a :: S) h) h = z_bg κ d y pc' L (.inl (a <<< (b &&& 31)) :: S) h := by
  subst hp; rfl
theorem X_ishr {a b : Int32} (hp : pc + 1 = pc') : z_st κ d y (z_do y pc (.ishr) L (.inl b :: .inl a :: S) h) h = z_bg κ d y pc' L (.inl (a >>> (b &&& 31)) :: S) h := by
  subst hp; rfl
theorem X_iushr {a b : Int32} (hp : pc + 1 = pc') : z_st κ d y (z_do y pc (.iushr) L (.inl b :: .inl a :: S) h) h = z_bg κ d y pc' L (.inl ((a.toUInt32 >>> (b.toUInt32 &&& Int32.toUInt32 31)).toInt32) :: S) h := by
  subst hp; rfl
theorem X_idiv {a b : Int32} (hp : pc + 1 = pc') : z_st κ d y (z_do y pc (.idiv) L (.inl b :: .inl a :: S) h) h = if b = 0 then none else z_bg κ d y pc' L (.inl (a / b) :: S) h := by
  subst hp; simp only [z_do, z_div, z_st_ite]; rfl
theorem X_idivC {a b : Int32} (hb : ¬ b = 0) (hp : pc + 1 = pc') : z_st κ d y (z_do y pc (.idiv) L (.inl b :: .inl a :: S) h) h = z_bg κ d y pc' L (.inl (a / b) :: S) h := by
  subst hp; simp only [z_do, z_div, if_neg hb]; rfl
theorem X_irem {a b : Int32} (hp : pc + 1 = pc') : z_st κ d y (z_do y pc (.irem) L (.inl b :: .inl a :: S) h) h = if b = 0 then none else z_bg κ d y pc' L (.inl (a - a / b * b) :: S) h := by
  subst hp; simp only [z_do, z_div, z_st_ite]; rfl
theorem X_iremC {a b : Int32} (hb : ¬ b = 0) (hp : pc + 1 = pc') : z_st κ d y (z_do y pc (.irem) L (.inl b :: .inl a :: S) h) h = z_bg κ d y pc' L (.inl (a - a / b * b) :: S) h := by
  subst hp; simp only [z_do, z_div, if_neg hb]; rfl
theorem X_ineg {a : Int32} (hp : pc + 1 = pc') : z_st κ d y (z_do y pc (.ineg) L (.inl a :: S) h) h = z_bg κ d y pc' L (.inl (-a) :: S) h := by
  subst hp; rfl
theorem X_i2l {a : Int32} (hp : pc + 1 = pc') : z_st κ d y (z_do y pc (.i2l) L (.inl a :: S) h) h = z_bg κ d y pc' L (.inr (.inl a.toInt64) :: S) h := by
  subst hp; rfl
theorem X_i2b {a : Int32} (hp : pc + 1 = pc') : z_st κ d y (z_do y pc (.i2b) L (.inl a :: S) h) h = z_bg κ d y pc' L (.inl a.toInt8.toInt32 :: S) h := by
  subst hp; rfl
theorem X_i2c {a : Int32} (hp : pc + 1 = pc') : z_st κ d y (z_do y pc (.i2c) L (.inl a :: S) h) h = z_bg κ d y pc' L (.inl (a.toUInt32 % 65536).toInt32 :: S) h := by
  subst hp; rfl
theorem X_l2i {a : Int64} (hp : pc + 1 = pc') : z_st κ d y (z_do y pc (.l2i) L (.inr (.inl a) :: S) h) h = z_bg κ d y pc' L (.inl a.toInt32 :: S) h := by
  subst hp; rfl
theorem X_lshl {a : Int64} {b : Int32} (hp : pc + 1 = pc') : z_st κ d y (z_do y pc (.lshl) L (.inl b :: .inr (.inl a) :: S) h) h = z_bg κ d y pc' L (.inr (.inl (a <<< (b.toInt64 &&& 63))) :: S) h := by
  subst hp; rfl
theorem X_lshr {a : Int64} {b : Int32} (hp : pc + 1 = pc') : z_st κ d y (z_do y pc (.lshr) L (.inl b :: .inr (.inl a) :: S) h) h = z_bg κ d y pc' L (.inr (.inl (a >>> (b.toInt64 &&& 63))) :: S) h := by
  subst hp; rfl
theorem X_land {a b : Int64} (hp : pc + 1 = pc') : z_st κ d y (z_do y pc (.land) L (.inr (.inl b) :: .inr (.inl a) :: S) h) h = z_bg κ d y pc' L (.inr (.inl (a &&& b)) :: S) h := by
  subst hp; rfl
theorem X_lor {a b : Int64} (hp : pc + 1 = pc') : z_st κ d y (z_do y pc (.lor) L (.inr (.inl b) :: .inr (.inl a) :: S) h) h = z_bg κ d y pc' L (.inr (.inl (a ||| b)) :: S) h := by
  subst hp; rfl
theorem X_dup {v : z_V} (hv : z_cat v = 1) (hp : pc + 1 = pc') : z_st κ d y (z_do y pc (.dup) L (v :: S) h) h = z_bg κ d y pc' L (v :: v :: S) h := by
  subst hp; simp only [z_do, hv]; rfl
theorem X_pop {v : z_V} (hv : z_cat v = 1) (hp : pc + 1 = pc') : z_st κ d y (z_do y pc (.pop) L (v :: S) h) h = z_bg κ d y pc' L (S) h := by
  subst hp; simp only [z_do, hv]; rfl
theorem X_dup2 {v w : z_V} (hv : z_cat v = 1) (hw : z_cat w = 1) (hp : pc + 1 = pc') : z_st κ d y (z_do y pc (.dup2) L (v :: w :: S) h) h = z_bg κ d y pc' L (v :: w :: v :: w :: S) h := by
  subst hp; simp only [z_do, hv, hw]; rfl
theorem X_goto {off : Int} {t : Nat} (ht : (pc : Int) + off = (t : Int)) : z_st κ d y (z_do y pc (.goto off) L S h) h = z_bg κ d y t L S h := by
  simp only [z_do, z_jmp_of ht]; rfl
theorem X_if_eq {a : Int32} {off : Int} {t : Nat} (hp : pc + 3 = pc') (ht : (pc : Int) + off = (t : Int)) : z_st κ d y (z_do y pc (.ifCond .eq off) L (.inl a :: S) h) h = if a = 0 then z_bg κ d y t L S h else z_bg κ d y pc' L S h := by
  subst hp
  simp only [z_do, z_br_of ht, z_cmp, decide_eq_true_iff, z_st_ite]; rfl
theorem X_icmp_eq {a b : Int32} {off : Int} {t : Nat} (hp : pc + 3 = pc') (ht : (pc : Int) + off = (t : Int)) : z_st κ d y (z_do y pc (.if_icmp .eq off) L (.inl b :: .inl a :: S) h) h = if a = b then z_bg κ d y t L S h else z_bg κ d y pc' L S h := by
  subst hp
  simp only [z_do, z_br_of ht, z_cmp, decide_eq_true_iff, z_st_ite]; rfl
theorem X_if_ne {a : Int32} {off : Int} {t : Nat} (hp : pc + 3 = pc') (ht : (pc : Int) + off = (t : Int)) : z_st κ d y (z_do y pc (.ifCond .ne off) L (.inl a :: S) h) h = if ¬ a = 0 then z_bg κ d y t L S h else z_bg κ d y pc' L S h := by
  subst hp
  simp only [z_do, z_br_of ht, z_cmp, decide_eq_true_iff, z_st_ite]; rfl
theorem X_icmp_ne {a b : Int32} {off : Int} {t : Nat} (hp : pc + 3 = pc') (ht : (pc : Int) + off = (t : Int)) : z_st κ d y (z_do y pc (.if_icmp .ne off) L (.inl b :: .inl a :: S) h) h = if ¬ a = b then z_bg κ d y t L S h else z_bg κ d y pc' L S h := by
  subst hp
  simp only [z_do, z_br_of ht, z_cmp, decide_eq_true_iff, z_st_ite]; rfl
theorem X_if_lt {a : Int32} {off : Int} {t : Nat} (hp : pc + 3 = pc') (ht : (pc : Int) + off = (t : Int)) : z_st κ d y (z_do y pc (.ifCond .lt off) L (.inl a :: S) h) h = if a < 0 then z_bg κ d y t L S h else z_bg κ d y pc' L S h := by
  subst hp
  simp only [z_do, z_br_of ht, z_cmp, decide_eq_true_iff, z_st_ite]; rfl
theorem X_icmp_lt {a b : Int32} {off : Int} {t : Nat} (hp : pc + 3 = pc') (ht : (pc : Int) + off = (t : Int)) : z_st κ d y (z_do y pc (.if_icmp .lt off) L (.inl b :: .inl a :: S) h) h = if a < b then z_bg κ d y t L S h else z_bg κ d y pc' L S h := by
  subst hp
  simp only [z_do, z_br_of ht, z_cmp, decide_eq_true_iff, z_st_ite]; rfl
theorem X_if_ge {a : Int32} {off : Int} {t : Nat} (hp : pc + 3 = pc') (ht : (pc : Int) + off = (t : Int)) : z_st κ d y (z_do y pc (.ifCond .ge off) L (.inl a :: S) h) h = if 0 ≤ a then z_bg κ d y t L S h else z_bg κ d y pc' L S h := by
  subst hp
  simp only [z_do, z_br_of ht, z_cmp, decide_eq_true_iff, z_st_ite]; rfl
theorem X_icmp_ge {a b : Int32} {off : Int} {t : Nat} (hp : pc + 3 = pc') (ht : (pc : Int) + off = (t : Int)) : z_st κ d y (z_do y pc (.if_icmp .ge off) L (.inl b :: .inl a :: S) h) h = if b ≤ a then z_bg κ d y t L S h else z_bg κ d y pc' L S h := by
  subst hp
  simp only [z_do, z_br_of ht, z_cmp, decide_eq_true_iff, z_st_ite]; rfl
theorem X_if_gt {a : Int32} {off : Int} {t : Nat} (hp : pc + 3 = pc') (ht : (pc : Int) + off = (t : Int)) : z_st κ d y (z_do y pc (.ifCond .gt off) L (.inl a :: S) h) h = if 0 < a then z_bg κ d y t L S h else z_bg κ d y pc' L S h := by
  subst hp
  simp only [z_do, z_br_of ht, z_cmp, decide_eq_true_iff, z_st_ite]; rfl
theorem X_icmp_gt {a b : Int32} {off : Int} {t : Nat} (hp : pc + 3 = pc') (ht : (pc : Int) + off = (t : Int)) : z_st κ d y (z_do y pc (.if_icmp .gt off) L (.inl b :: .inl a :: S) h) h = if b < a then z_bg κ d y t L S h else z_bg κ d y pc' L S h := by
  subst hp
  simp only [z_do, z_br_of ht, z_cmp, decide_eq_true_iff, z_st_ite]; rfl
theorem X_if_le {a : Int32} {off : Int} {t : Nat} (hp : pc + 3 = pc') (ht : (pc : Int) + off = (t : Int)) : z_st κ d y (z_do y pc (.ifCond .le off) L (.inl a :: S) h) h = if a ≤ 0 then z_bg κ d y t L S h else z_bg κ d y pc' L S h := by
  subst hp
  simp only [z_do, z_br_of ht, z_cmp, decide_eq_true_iff, z_st_ite]; rfl
theorem X_icmp_le {a b : Int32} {off : Int} {t : Nat} (hp : pc + 3 = pc') (ht : (pc : Int) + off = (t : Int)) : z_st κ d y (z_do y pc (.if_icmp .le off) L (.inl b :: .inl a :: S) h) h = if a ≤ b then z_bg κ d y t L S h else z_bg κ d y pc' L S h := by
  subst hp
  simp only [z_do, z_br_of ht, z_cmp, decide_eq_true_iff, z_st_ite]; rfl
theorem X_ifnull {r : Option Nat} {off : Int} {t : Nat} (hp : pc + 3 = pc') (ht : (pc : Int) + off = (t : Int)) : z_st κ d y (z_do y pc (.ifnull off) L (.inr (.inr r) :: S) h) h = (z_nul r).bind fun q => if q = true then z_bg κ d y t L S h else z_bg κ d y pc' L S h := by
  subst hp
  simp only [z_do, z_br_of ht, z_st_bind, z_st_ite]; rfl
theorem X_ifnonnull {r : Option Nat} {off : Int} {t : Nat} (hp : pc + 3 = pc') (ht : (pc : Int) + off = (t : Int)) : z_st κ d y (z_do y pc (.ifnonnull off) L (.inr (.inr r) :: S) h) h = (z_nul r).bind fun q => if q = true then z_bg κ d y pc' L S h else z_bg κ d y t L S h := by
  subst hp
  simp only [z_do, z_br_of ht, z_st_bind, z_st_ite]
  refine z_bcg fun q => ?_
  cases q <;> rfl
theorem X_sw {a : Int32} {dflt lo hi : Int} {offs : Array Int} {t : Nat} (ht : (pc : Int) + dflt = (t : Int)) : z_st κ d y (z_do y pc (.tableswitch dflt lo hi offs) L (.inl a :: S) h) h = if a.toInt < lo ∨ hi < a.toInt then z_bg κ d y t L S h else (offs[(a.toInt - lo).toNat]?).bind fun off => z_st κ d y (z_jmp pc off L S h) h := by
  simp only [z_do, z_jmp_of ht, z_st_ite, z_st_bind]; rfl
theorem X_iret {x : Int32} (hk : z_rk y = 1) : z_st z_rI d y (z_do y pc .ireturn L [.inl x] h) h = some (x, h) := by
  simp only [z_do, hk]; rfl
theorem X_zret {x : Int32} (hk : z_rk y = 2) (hx : x = 0 ∨ x = 1) : z_st z_rI d y (z_do y pc .ireturn L [.inl x] h) h = some (x, h) := by
  simp only [z_do, hk, hx]; rfl
theorem X_zretv {x : Int32} (hk : z_rk y = 2) : z_st z_rI d y (z_do y pc .ireturn L [.inl x] h) h = if x = 0 ∨ x = 1 then some (x, h) else none := by
  simp only [z_do, hk]
  by_cases hx : x = 0 ∨ x = 1
  · simp [hx]; rfl
  · simp [hx]; rfl
theorem X_bret {x : Int32} (hk : z_rk y = 3) : z_st z_rI d y (z_do y pc .ireturn L [.inl x] h) h = if x.toInt8.toInt32 = x then some (x, h) else none := by
  simp only [z_do, hk]
  by_cases hx : x.toInt8.toInt32 = x
  · simp [hx]; rfl
  · simp [hx]; rfl
theorem X_cret {x : Int32} (hk : z_rk y = 4) : z_st z_rI d y (z_do y pc .ireturn L [.inl x] h) h = if (x.toUInt32 % 65536).toInt32 = x then some (x, h) else none := by
  simp only [z_do, hk]
  by_cases hx : (x.toUInt32 % 65536).toInt32 = x
  · simp [hx]; rfl
  · simp [hx]; rfl
theorem X_aret {x : Option Nat} (hk : z_rk y = 5) : z_st z_rR d y (z_do y pc .areturn L [.inr (.inr x)] h) h = some (x, h) := by
  simp only [z_do, hk]; rfl
theorem X_vret (hk : z_rk y = 0) : z_st z_rV d y (z_do y pc .return_ L [] h) h = some h := by
  simp only [z_do, hk]; rfl
theorem X_getstatic {n : Nat} {q : Nat × Nat} {v : z_V} (hq : z_sta y n = some q) (hv : z_sv q.1 = v) (hp : pc + 3 = pc') : z_st κ d y (z_do y pc (.getstatic n) L (S) h) h = z_bg κ d y pc' L (v :: S) h := by
  subst hp; subst hv; simp only [z_do, hq]; rfl
theorem X_getI {n ci k ty : Nat} {fin : Bool} {r : Option Nat} (hf : z_fld y n = some (ci, k, ty, fin)) (ht : ¬ ty = 2) (hp : pc + 3 = pc') : z_st κ d y (z_do y pc (.getfield n) L (.inr (.inr r) :: S) h) h = (z_gI h r ci k).bind fun x => z_bg κ d y pc' L (.inl x :: S) h := by
  subst hp; simp only [z_do, hf, Option.bind_some, if_neg ht, z_st_bind]; rfl
theorem X_getR {n ci k : Nat} {fin : Bool} {r : Option Nat} (hf : z_fld y n = some (ci, k, 2, fin)) (hp : pc + 3 = pc') : z_st κ d y (z_do y pc (.getfield n) L (.inr (.inr r) :: S) h) h = (z_gR h r ci k).bind fun x => z_bg κ d y pc' L (.inr (.inr x) :: S) h := by
  subst hp; simp only [z_do, hf, Option.bind_some, if_true, z_st_bind]; rfl
theorem X_putI {n ci k ty : Nat} {fin : Bool} {r : Option Nat} {x : Int32} (hf : z_fld y n = some (ci, k, ty, fin)) (ht : ty ≠ 2 ∧ ci < 12 ∧ (fin = true → z_kns.getD y 9 = 2 ∧ ci = z_oi y)) (hp : pc + 3 = pc') : z_st κ d y (z_do y pc (.putfield n) L (.inl x :: .inr (.inr r) :: S) h) h = (z_pI ty h r ci k x).bind fun h1 => z_bg κ d y pc' L (S) h1 := by
  subst hp; simp only [z_do, hf, Option.bind_some, if_pos ht, z_st_bind]; rfl
theorem X_putR {n ci k : Nat} {fin : Bool} {r x : Option Nat} (hf : z_fld y n = some (ci, k, 2, fin)) (ht : ci < 12 ∧ (fin = true → z_kns.getD y 9 = 2 ∧ ci = z_oi y)) (hp : pc + 3 = pc') : z_st κ d y (z_do y pc (.putfield n) L (.inr (.inr x) :: .inr (.inr r) :: S) h) h = (z_pR h r ci k x).bind fun h1 => z_bg κ d y pc' L (S) h1 := by
  subst hp; simp only [z_do, hf, Option.bind_some, true_and, if_pos ht, z_st_bind]; rfl
theorem X_iaload {r : Option Nat} {i : Int32} (hp : pc + 1 = pc') : z_st κ d y (z_do y pc (.iaload) L (.inl i :: .inr (.inr r) :: S) h) h = (z_ldI h r i).bind fun x => z_bg κ d y pc' L (.inl x :: S) h := by
  subst hp; simp only [z_do, z_st_bind]; rfl
theorem X_baload {r : Option Nat} {i : Int32} (hp : pc + 1 = pc') : z_st κ d y (z_do y pc (.baload) L (.inl i :: .inr (.inr r) :: S) h) h = (z_ldB h r i).bind fun x => z_bg κ d y pc' L (.inl x :: S) h := by
  subst hp; simp only [z_do, z_st_bind]; rfl
theorem X_aaload {r : Option Nat} {i : Int32} (hp : pc + 1 = pc') : z_st κ d y (z_do y pc (.aaload) L (.inl i :: .inr (.inr r) :: S) h) h = (z_ldR h r i).bind fun x => z_bg κ d y pc' L (.inr (.inr x) :: S) h := by
  subst hp; simp only [z_do, z_st_bind]; rfl
theorem X_iastore {r : Option Nat} {i x : Int32} (hp : pc + 1 = pc') : z_st κ d y (z_do y pc (.iastore) L (.inl x :: .inl i :: .inr (.inr r) :: S) h) h = (z_stI h r i x).bind fun h1 => z_bg κ d y pc' L (S) h1 := by
  subst hp; simp only [z_do, z_st_bind]; rfl
theorem X_bastore {r : Option Nat} {i x : Int32} (hp : pc + 1 = pc') : z_st κ d y (z_do y pc (.bastore) L (.inl x :: .inl i :: .inr (.inr r) :: S) h) h = (z_stB h r i x).bind fun h1 => z_bg κ d y pc' L (S) h1 := by
  subst hp; simp only [z_do, z_st_bind]; rfl
theorem X_aastore {r x : Option Nat} {i : Int32} (hp : pc + 1 = pc') : z_st κ d y (z_do y pc (.aastore) L (.inr (.inr x) :: .inl i :: .inr (.inr r) :: S) h) h = (z_stR h r i x).bind fun h1 => z_bg κ d y pc' L (S) h1 := by
  subst hp; simp only [z_do, z_st_bind]; rfl
theorem X_arraylength {r : Option Nat} (hp : pc + 1 = pc') : z_st κ d y (z_do y pc (.arraylength) L (.inr (.inr r) :: S) h) h = (z_len h r).bind fun x => z_bg κ d y pc' L (.inl x :: S) h := by
  subst hp; simp only [z_do, z_st_bind]; rfl
theorem X_new {n ci : Nat} (hc : z_cls y n = some ci) (hp : pc + 3 = pc') : z_st κ d y (z_do y pc (.new n) L (S) h) h = z_bg κ d y pc' L (.inr (.inr (some h.1)) :: S) (z_new ci h) := by
  subst hp; simp only [z_do, hc]; rfl
theorem X_newarray {t : ArrayType} {k : Nat} {n : Int32} {m : Nat} (ht : z_at t = some k) (hn : 0 ≤ n ∧ n.toNatClampNeg ≤ 100000) (hm : n.toNatClampNeg = m) (hp : pc + 2 = pc') : z_st κ d y (z_do y pc (.newarray t) L (.inl n :: S) h) h = z_bg κ d y pc' L (.inr (.inr (some h.1)) :: S) (z_nwI k m h) := by
  subst hp; subst hm; simp only [z_do, ht, Option.bind_some, if_pos hn]; rfl
theorem X_anewarray {q k : Nat} {n : Int32} {m : Nat} (ht : z_anw y q = some k) (hn : 0 ≤ n ∧ n.toNatClampNeg ≤ 100000) (hm : n.toNatClampNeg = m) (hp : pc + 3 = pc') : z_st κ d y (z_do y pc (.anewarray q) L (.inl n :: S) h) h = z_bg κ d y pc' L (.inr (.inr (some h.1)) :: S) (z_nwR k m h) := by
  subst hp; subst hm; simp only [z_do, ht, Option.bind_some, if_pos hn]; rfl
theorem X_objInit {n : Nat} {g : Nat × Nat} {r : Option Nat} (hg : z_mtd y n = some g) (h9 : g.1 = 999) (hc : z_cats S ≤ 8) (hp : pc + 3 = pc') : z_st κ d y (z_do y pc (.invokespecial n) L (.inr (.inr r) :: S) h) h = (z_nul r).bind fun b => if b = false then z_bg κ d y pc' L (S) h else none := by
  subst hp
  simp only [z_do, hg, Option.bind_some, if_pos h9, z_st_bind, hc, and_true, z_st_ite]
  rfl
/-- what comes back is of the method's kind -/
theorem z_kind : ∀ (n d y pc : Nat) (L : z_L) (S : List z_V) (h : z_H) (v : Option z_V) (h' : z_H), z_run n d y pc L S h = some (v, h') → (1 ≤ z_rk y → z_rk y ≤ 4 → ∃ x, v = some (.inl x)) ∧ (z_rk y = 5 → ∃ x, v = some (.inr (.inr x))) ∧ (z_rk y = 0 → v = none) := by
  intro n
  induction n with
  | zero => intro d y pc L S h v h' e; cases e
  | succ n ih =>
    intro d y pc L S h v h' e
    unfold z_run at e
    split at e
    case h_1 => cases e
    case h_2 q hq => exact ih _ _ _ _ _ _ _ _ e
    case h_3 q hq =>
      split at e
      case h_1 => cases e
      case h_2 d' hd =>
        split at e
        case isFalse => cases e
        case isTrue =>
          split at e
          case h_1 => cases e
          case h_2 r hr => exact ih _ _ _ _ _ _ _ _ e
    case h_4 v0 hq =>
      cases e
      obtain ⟨qi, -, h2⟩ := z_x_bind hq
      obtain ⟨hro, -⟩ := z_x_ret h2
      rcases hro with ⟨-, x, rfl, hc⟩ | ⟨-, hc, x, rfl⟩ | ⟨-, hc, rfl⟩
      · refine ⟨fun _ _ => ⟨x, rfl⟩, fun h5 => ?_, fun h0 => ?_⟩ <;> omega
      · exact ⟨fun _ _ => by omega, fun _ => ⟨x, rfl⟩, fun h0 => by omega⟩
      · exact ⟨fun _ _ => by omega, fun h5 => by omega, fun _ => rfl⟩
section ZCL
variable {g d' : Nat} {as : List z_V} {L' : z_L} {S' : List z_V}
theorem z_st_call (hd : z_nd d g = some d') (hs : (z_slots as).length ≤ z_mls.getD g 0) : z_st κ d y (some (.inr (.inl (g, as, pc', L', S')))) h = (z_big d' g 0 (z_ent g as) [] h).bind fun r => z_bg κ d y pc' L' (r.1.toList ++ S') r.2 := by
  show ((z_nd d g).bind _).bind κ = _
  rw [hd]
  show (if _ then _ else _ : Option z_R).bind κ = _
  rw [if_pos hs]
  cases z_big d' g 0 (z_ent g as) [] h with
  | none => rfl
  | some r => rfl
theorem z_callI (hd : z_nd d g = some d') (hs : (z_slots as).length ≤ z_mls.getD g 0) (hk : 1 ≤ z_rk g ∧ z_rk g ≤ 4) : z_st κ d y (some (.inr (.inl (g, as, pc', L', S')))) h = (z_cI d' g as h).bind fun p => z_bg κ d y pc' L' (.inl p.1 :: S') p.2 := by
  rw [z_st_call hd hs]
  unfold z_cI z_bg
  cases hb : z_big d' g 0 (z_ent g as) [] h with
  | none => rfl
  | some r =>
    obtain ⟨v, h'⟩ := r
    obtain ⟨n, hn⟩ := z_big_iff.mp hb
    obtain ⟨x, rfl⟩ := (z_kind _ _ _ _ _ _ _ _ _ hn).1 hk.1 hk.2
    rfl
theorem z_callR (hd : z_nd d g = some d') (hs : (z_slots as).length ≤ z_mls.getD g 0) (hk : z_rk g = 5) : z_st κ d y (some (.inr (.inl (g, as, pc', L', S')))) h = (z_cR d' g as h).bind fun p => z_bg κ d y pc' L' (.inr (.inr p.1) :: S') p.2 := by
  rw [z_st_call hd hs]
  unfold z_cR z_bg
  cases hb : z_big d' g 0 (z_ent g as) [] h with
  | none => rfl
  | some r =>
    obtain ⟨v, h'⟩ := r
    obtain ⟨n, hn⟩ := z_big_iff.mp hb
    obtain ⟨x, rfl⟩ := (z_kind _ _ _ _ _ _ _ _ _ hn).2.1 hk
    rfl
theorem z_callV (hd : z_nd d g = some d') (hs : (z_slots as).length ≤ z_mls.getD g 0) (hk : z_rk g = 0) : z_st κ d y (some (.inr (.inl (g, as, pc', L', S')))) h = (z_cV d' g as h).bind fun h1 => z_bg κ d y pc' L' S' h1 := by
  rw [z_st_call hd hs]
  unfold z_cV z_bg
  cases hb : z_big d' g 0 (z_ent g as) [] h with
  | none => rfl
  | some r =>
    obtain ⟨v, h'⟩ := r
    obtain ⟨n, hn⟩ := z_big_iff.mp hb
    have := (z_kind _ _ _ _ _ _ _ _ _ hn).2.2 hk
    subst this
    rfl
end ZCL
/-- the three ways to call -/
theorem X_static {k g ne : Nat} {as S' : List z_V} (hg : z_mtd y k = some (g, ne)) (hc : g < 999 ∧ z_kns.getD g 9 = 0) (hn : z_nps.getD g 0 = as.length) (hS : S = as.reverse ++ S') (h8 : z_cats S' ≤ 8) : z_do y pc (.invokestatic k) L S h = some (.inr (.inl (g, as, pc + 3, L, S'))) := by
  subst hS
  have h1 : (as.reverse ++ S').drop (z_nps.getD g 0) = S' := by rw [hn, ← List.length_reverse]; exact List.drop_left
  have h2 : ((as.reverse ++ S').take (z_nps.getD g 0)).reverse = as := by rw [hn, ← List.length_reverse, List.take_left, List.reverse_reverse]
  simp only [z_do, hg, Option.bind_some, h1, h2]
  rw [if_pos ⟨hc.1, hc.2, by rw [hn, List.length_append, List.length_reverse]; omega, h8⟩]
theorem X_virtual {k g ne : Nat} {r : Option Nat} {as S' : List z_V} (hg : z_mtd y k = some (g, ne)) (hc : g < 999 ∧ z_kns.getD g 9 = 1) (hn : z_nps.getD g 0 = as.length) (hS : S = as.reverse ++ .inr (.inr r) :: S') (h8 : z_cats S' ≤ 8) : z_do y pc (.invokevirtual k) L S h = (z_ob h r (z_oi g)).bind fun _ => some (.inr (.inl (g, .inr (.inr r) :: as, pc + 3, L, S'))) := by
  subst hS
  have h1 : (as.reverse ++ .inr (.inr r) :: S').drop (z_nps.getD g 0) = .inr (.inr r) :: S' := by rw [hn, ← List.length_reverse]; exact List.drop_left
  have h2 : ((as.reverse ++ .inr (.inr r) :: S').take (z_nps.getD g 0)).reverse = as := by rw [hn, ← List.length_reverse, List.take_left, List.reverse_reverse]
  simp only [z_do, hg, Option.bind_some, h1, h2]
  rw [if_pos ⟨hc.1, h8, hc.2⟩]
theorem X_special {k g ne : Nat} {r : Option Nat} {as S' : List z_V} (hg : z_mtd y k = some (g, ne)) (hc : g < 999 ∧ z_kns.getD g 9 = 2) (hn : z_nps.getD g 0 = as.length) (hS : S = as.reverse ++ .inr (.inr r) :: S') (h8 : z_cats S' ≤ 8) : z_do y pc (.invokespecial k) L S h = (z_nul r).bind fun b => if b = false then some (.inr (.inl (g, .inr (.inr r) :: as, pc + 3, L, S'))) else none := by
  subst hS
  have h1 : (as.reverse ++ .inr (.inr r) :: S').drop (z_nps.getD g 0) = .inr (.inr r) :: S' := by rw [hn, ← List.length_reverse]; exact List.drop_left
  have h2 : ((as.reverse ++ .inr (.inr r) :: S').take (z_nps.getD g 0)).reverse = as := by rw [hn, ← List.length_reverse, List.take_left, List.reverse_reverse]
  have h9 : ¬ g = 999 := by omega
  simp only [z_do, hg, Option.bind_some, if_neg h9, h1, h2]
  refine z_bcg fun b => ?_
  by_cases hb : b = false
  · rw [if_pos ⟨hb, hc.1, h8, hc.2⟩, if_pos hb]
  · rw [if_neg (fun q => hb q.1), if_neg hb]
end ZXX
section ZXC
variable {α : Type} {κ : z_R → Option α} {d y pc pc' : Nat} {L : z_L} {S : List z_V} {h : z_H}
/-- all that the tables say of a call -/
def z_kc (y k g kn np ns lo hi : Nat) : Bool := decide ((z_mtd y k).map (·.1) = some g) && decide (g < 999) && decide (z_kns.getD g 9 = kn) && decide (z_nps.getD g 0 = np) && decide (ns ≤ z_mls.getD g 0) && decide (lo ≤ z_rk g) && decide (z_rk g ≤ hi)
theorem z_kc_of {y k g kn np ns lo hi : Nat} (h : z_kc y k g kn np ns lo hi = true) : (∃ ne, z_mtd y k = some (g, ne)) ∧ (g < 999 ∧ z_kns.getD g 9 = kn) ∧ z_nps.getD g 0 = np ∧ ns ≤ z_mls.getD g 0 ∧ lo ≤ z_rk g ∧ z_rk g ≤ hi := by
  unfold z_kc at h
  simp only [Bool.and_eq_true, decide_eq_true_iff] at h
  obtain ⟨⟨⟨⟨⟨⟨h1, h2⟩, h3⟩, h4⟩, h5⟩, h6⟩, h7⟩ := h
  refine ⟨?_, ⟨h2, h3⟩, h4, h5, h6, h7⟩
  cases hm : z_mtd y k with
  | none => rw [hm] at h1; cases h1
  | some q => rw [hm] at h1; exact ⟨q.2, by rw [← (Option.some.inj h1)]⟩
theorem z_nd_non {d g k : Nat} (h0 : z_hts.getD g 0 = k) (hk : ¬ k = 0) (hd : k < d) : z_nd d g = some k := by
  unfold z_nd
  rw [h0, if_neg hk, if_pos hd]
theorem z_nd_rec {d g : Nat} (h0 : z_hts.getD g 0 = 0) : z_nd (d + 2) g = some (d + 1) := by
  unfold z_nd
  rw [h0, if_pos rfl, if_pos (by omega)]
  rfl
variable {k g d' np ns : Nat} {r : Option Nat} {as S' : List z_V}
theorem K_SI (hk : z_kc y k g 0 np ns 1 4 = true) (hd : z_nd d g = some d') (hn : as.length = np) (hs : (z_slots as).length = ns) (hS : S = as.reverse ++ S') (h8 : z_cats S' ≤ 8) (hp : pc + 3 = pc') : z_st κ d y (z_do y pc (.invokestatic k) L S h) h = (z_cI d' g as h).bind fun p => z_bg κ d y pc' L (.inl p.1 :: S') p.2 := by
  obtain ⟨⟨ne, h1⟩, h2, h3, h4, h5, h6⟩ := z_kc_of hk
  subst hp
  rw [X_static h1 h2 (h3.trans hn.symm) hS h8, z_callI hd (by rw [hs]; exact h4) ⟨h5, h6⟩]
theorem K_SV (hk : z_kc y k g 0 np ns 0 0 = true) (hd : z_nd d g = some d') (hn : as.length = np) (hs : (z_slots as).length = ns) (hS : S = as.reverse ++ S') (h8 : z_cats S' ≤ 8) (hp : pc + 3 = pc') : z_st κ d y (z_do y pc (.invokestatic k) L S h) h = (z_cV d' g as h).bind fun h1 => z_bg κ d y pc' L S' h1 := by
  obtain ⟨⟨ne, h1⟩, h2, h3, h4, h5, h6⟩ := z_kc_of hk
  subst hp
  rw [X_static h1 h2 (h3.trans hn.symm) hS h8, z_callV hd (by rw [hs]; exact h4) (by omega)]
theorem K_VI {ci : Nat} (hk : z_kc y k g 1 np ns 1 4 = true) (hd : z_nd d g = some d') (ho : z_oi g = ci) (hn : as.length = np) (hs : (z_slots (.inr (.inr r) :: as)).length = ns) (hS : S = as.reverse ++ .inr (.inr r) :: S') (h8 : z_cats S' ≤ 8) (hp : pc + 3 = pc') : z_st κ d y (z_do y pc (.invokevirtual k) L S h) h = (z_ob h r ci).bind fun _ => (z_cI d' g (.inr (.inr r) :: as) h).bind fun p => z_bg κ d y pc' L (.inl p.1 :: S') p.2 := by
  obtain ⟨⟨ne, h1⟩, h2, h3, h4, h5, h6⟩ := z_kc_of hk
  subst hp; subst ho
  rw [X_virtual h1 h2 (h3.trans hn.symm) hS h8, z_st_bind]
  exact z_bcg fun _ => z_callI hd (by rw [hs]; exact h4) ⟨h5, h6⟩
theorem K_VR {ci : Nat} (hk : z_kc y k g 1 np ns 5 5 = true) (hd : z_nd d g = some d') (ho : z_oi g = ci) (hn : as.length = np) (hs : (z_slots (.inr (.inr r) :: as)).length = ns) (hS : S = as.reverse ++ .inr (.inr r) :: S') (h8 : z_cats S' ≤ 8) (hp : pc + 3 = pc') : z_st κ d y (z_do y pc (.invokevirtual k) L S h) h = (z_ob h r ci).bind fun _ => (z_cR d' g (.inr (.inr r) :: as) h).bind fun p => z_bg κ d y pc' L (.inr (.inr p.1) :: S') p.2 := by
  obtain ⟨⟨ne, h1⟩, h2, h3, h4, h5, h6⟩ := z_kc_of hk
  subst hp; subst ho
  rw [X_virtual h1 h2 (h3.trans hn.symm) hS h8, z_st_bind]
  exact z_bcg fun _ => z_callR hd (by rw [hs]; exact h4) (by omega)
theorem K_VV {ci : Nat} (hk : z_kc y k g 1 np ns 0 0 = true) (hd : z_nd d g = some d') (ho : z_oi g = ci) (hn : as.length = np) (hs : (z_slots (.inr (.inr r) :: as)).length = ns) (hS : S = as.reverse ++ .inr (.inr r) :: S') (h8 : z_cats S' ≤ 8) (hp : pc + 3 = pc') : z_st κ d y (z_do y pc (.invokevirtual k) L S h) h = (z_ob h r ci).bind fun _ => (z_cV d' g (.inr (.inr r) :: as) h).bind fun h1 => z_bg κ d y pc' L S' h1 := by
  obtain ⟨⟨ne, h1⟩, h2, h3, h4, h5, h6⟩ := z_kc_of hk
  subst hp; subst ho
  rw [X_virtual h1 h2 (h3.trans hn.symm) hS h8, z_st_bind]
  exact z_bcg fun _ => z_callV hd (by rw [hs]; exact h4) (by omega)
theorem K_IV (hk : z_kc y k g 2 np ns 0 0 = true) (hd : z_nd d g = some d') (hn : as.length = np) (hs : (z_slots (.inr (.inr r) :: as)).length = ns) (hS : S = as.reverse ++ .inr (.inr r) :: S') (h8 : z_cats S' ≤ 8) (hp : pc + 3 = pc') : z_st κ d y (z_do y pc (.invokespecial k) L S h) h = (z_nul r).bind fun b => if b = false then (z_cV d' g (.inr (.inr r) :: as) h).bind fun h1 => z_bg κ d y pc' L S' h1 else none := by
  obtain ⟨⟨ne, h1⟩, h2, h3, h4, h5, h6⟩ := z_kc_of hk
  subst hp
  rw [X_special h1 h2 (h3.trans hn.symm) hS h8, z_st_bind]
  refine z_bcg fun b => ?_
  rw [z_st_ite]
  refine z_icg (fun _ => z_callV hd (by rw [hs]; exact h4) (by omega)) (fun _ => rfl)
theorem X_swK {a v : Int32} {dflt lo hi off : Int} {offs : Array Int} {t : Nat} (ha : a = v) (hv : (¬ (v.toInt < lo ∨ hi < v.toInt)) ∧ offs[(v.toInt - lo).toNat]? = some off) (ht : (pc : Int) + off = (t : Int)) : z_st κ d y (z_do y pc (.tableswitch dflt lo hi offs) L (.inl a :: S) h) h = z_bg κ d y t L S h := by
  subst ha
  simp only [z_do, if_neg hv.1, hv.2, Option.bind_some, z_jmp_of ht]
  rfl
theorem X_swD {a : Int32} {dflt lo hi : Int} {offs : Array Int} {t : Nat} (ha : a.toInt < lo ∨ hi < a.toInt) (ht : (pc : Int) + dflt = (t : Int)) : z_st κ d y (z_do y pc (.tableswitch dflt lo hi offs) L (.inl a :: S) h) h = z_bg κ d y t L S h := by
  simp only [z_do, if_pos ha, z_jmp_of ht]
  rfl
theorem B_inI {as : List z_V} {L' : z_L} (hL : z_ent y as = L') : z_cI d y as h = z_bg z_rI d y 0 L' [] h := by rw [← hL]; rfl
theorem B_inV {as : List z_V} {L' : z_L} (hL : z_ent y as = L') : z_cV d y as h = z_bg z_rV d y 0 L' [] h := by rw [← hL]; rfl
theorem B_inR {as : List z_V} {L' : z_L} (hL : z_ent y as = L') : z_cR d y as h = z_bg z_rR d y 0 L' [] h := by rw [← hL]; rfl
end ZXC
theorem X_stuck {α : Type} {κ : z_R → Option α} {d y pc k : Nat} {L : z_L} {S : List z_V} {h : z_H} (hm : z_mtd y k = none) : z_st κ d y (z_do y pc (.invokestatic k) L S h) h = none := by
  simp only [z_do, hm]
  rfl
