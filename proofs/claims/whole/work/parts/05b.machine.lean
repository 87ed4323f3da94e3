/-! A SMALL MACHINE: the program's own instructions over cells with numbers for addresses; one step, a run, and what a run comes to -/
abbrev z_V : Type := Int32 ⊕ (Int64 ⊕ Option Nat)
abbrev z_C : Type := (Nat × Nat × (Nat → Int32)) ⊕ ((Nat × Nat × (Nat → Option Nat)) ⊕ (Nat × List z_V))
/-- the next address, the slots made so far, the cells -/
abbrev z_H : Type := Nat × Nat × (Nat → z_C)
abbrev z_L : Type := List (Option z_V)
abbrev z_A : Type := (Nat × z_L × List z_V × z_H) ⊕ ((Nat × List z_V × Nat × z_L × List z_V) ⊕ Option z_V)
def z_upd (f : Nat → z_C) (k : Nat) (x : z_C) : Nat → z_C := fun j => if j = k then x else f j
def z_upi (f : Nat → Int32) (k : Nat) (x : Int32) : Nat → Int32 := fun j => if j = k then x else f j
def z_upr (f : Nat → Option Nat) (k : Nat) (x : Option Nat) : Nat → Option Nat := fun j => if j = k then x else f j
def z_in (i : Int32) (n : Nat) : Bool := decide (0 ≤ i) && decide (i.toNatClampNeg < n)
def z_put (h : z_H) (a : Nat) (x : z_C) : z_H := (h.1, h.2.1, z_upd h.2.2 a x)
-- reads and writes
def z_gI (h : z_H) (r : Option Nat) (ci k : Nat) : Option Int32 := match r with
  | none => none
  | some a => match h.2.2 a with
    | .inr (.inr (c, fs)) => if c = ci then (match fs[k]? with | some (.inl x) => some x | _ => none) else none
    | _ => none
def z_gR (h : z_H) (r : Option Nat) (ci k : Nat) : Option (Option Nat) := match r with
  | none => none
  | some a => match h.2.2 a with
    | .inr (.inr (c, fs)) => if c = ci then (match fs[k]? with | some (.inr (.inr x)) => some x | _ => none) else none
    | _ => none
def z_pI (ty : Nat) (h : z_H) (r : Option Nat) (ci k : Nat) (x : Int32) : Option z_H := match r with
  | none => none
  | some a => match h.2.2 a with
    | .inr (.inr (c, fs)) => if c = ci ∧ k < fs.length ∧ (ty = 0 ∨ x = 0 ∨ x = 1) then some (z_put h a (.inr (.inr (c, fs.set k (.inl x))))) else none
    | _ => none
def z_pR (h : z_H) (r : Option Nat) (ci k : Nat) (x : Option Nat) : Option z_H := match r with
  | none => none
  | some a => match h.2.2 a with
    | .inr (.inr (c, fs)) => if c = ci ∧ k < fs.length then some (z_put h a (.inr (.inr (c, fs.set k (.inr (.inr x)))))) else none
    | _ => none
def z_ldI (h : z_H) (r : Option Nat) (i : Int32) : Option Int32 := match r with
  | none => none
  | some a => match h.2.2 a with
    | .inl (t, n, f) => if (t = 0 ∨ t = 10) ∧ z_in i n = true then some (f i.toNatClampNeg) else none
    | _ => none
def z_ldB (h : z_H) (r : Option Nat) (i : Int32) : Option Int32 := match r with
  | none => none
  | some a => match h.2.2 a with
    | .inl (t, n, f) => if (t = 1 ∨ t = 2 ∨ t = 12) ∧ z_in i n = true then some (f i.toNatClampNeg) else none
    | _ => none
def z_ldR (h : z_H) (r : Option Nat) (i : Int32) : Option (Option Nat) := match r with
  | none => none
  | some a => match h.2.2 a with
    | .inr (.inl (t, n, f)) => if z_in i n = true then some (f i.toNatClampNeg) else none
    | _ => none
def z_stI (h : z_H) (r : Option Nat) (i x : Int32) : Option z_H := match r with
  | none => none
  | some a => match h.2.2 a with
    | .inl (t, n, f) => if t = 0 ∧ z_in i n = true then some (z_put h a (.inl (t, n, z_upi f i.toNatClampNeg x))) else none
    | _ => none
def z_stB (h : z_H) (r : Option Nat) (i x : Int32) : Option z_H := match r with
  | none => none
  | some a => match h.2.2 a with
    | .inl (t, n, f) =>
      if t = 1 ∧ (x = 0 ∨ x = 1) ∧ z_in i n = true then some (z_put h a (.inl (t, n, z_upi f i.toNatClampNeg x)))
      else if t = 2 ∧ z_in i n = true then some (z_put h a (.inl (t, n, z_upi f i.toNatClampNeg x.toInt8.toInt32)))
      else none
    | _ => none
/-- the class of an array's cells, by the array's kind -/
def z_tc (t : Nat) : Nat := if t = 3 then 4 else if t = 4 then 0 else 9
def z_stR (h : z_H) (r : Option Nat) (i : Int32) (x : Option Nat) : Option z_H := match r with
  | none => none
  | some a => match x with
    | none => none
    | some b => match h.2.2 a with
      | .inr (.inl (t, n, f)) => match h.2.2 b with
        | .inr (.inr (c, fs)) => if (t = 3 ∨ t = 4 ∨ t = 5) ∧ c = z_tc t ∧ z_in i n = true then some (z_put h a (.inr (.inl (t, n, z_upr f i.toNatClampNeg (some b))))) else none
        | _ => none
      | _ => none
def z_len (h : z_H) (r : Option Nat) : Option Int32 := match r with
  | none => none
  | some a => match h.2.2 a with
    | .inl (t, n, _) => if t = 99 then none else some (Int32.ofNat n)
    | .inr (.inl (_, n, _)) => some (Int32.ofNat n)
    | _ => none
/-- a thing of a class: a receiver -/
def z_ob (h : z_H) (r : Option Nat) (ci : Nat) : Option Unit := match r with
  | none => none
  | some a => match h.2.2 a with
    | .inr (.inr (c, _)) => if c = ci then some () else none
    | _ => none
/-- null or not; the JDK's own thing at 5 isn't asked -/
def z_nul (r : Option Nat) : Option Bool := match r with
  | none => some true
  | some a => if a = 5 then none else some false
def z_dv (t : Nat) : z_V := if t = 2 then .inr (.inr none) else .inl 0
def z_key {α : Type} : List (Nat × α) → Nat → Option α
  | [], _ => none
  | (k, x) :: l, i => if k = i then some x else z_key l i
def z_oi (y : Nat) : Nat := z_ois.getD y 99
def z_fld (y idx : Nat) : Option (Nat × Nat × Nat × Bool) := if idx < 2000 then z_key z_fldT (z_oi y * 2000 + idx) else none
def z_mtd (y idx : Nat) : Option (Nat × Nat) := if idx < 2000 then z_key z_mtdT (z_oi y * 2000 + idx) else none
def z_cls (y idx : Nat) : Option Nat := if idx < 2000 then z_key z_clsT (z_oi y * 2000 + idx) else none
def z_anw (y idx : Nat) : Option Nat := if idx < 2000 then z_key z_anwT (z_oi y * 2000 + idx) else none
def z_cst (y idx : Nat) : Option Int32 := if idx < 2000 then z_key z_cstT (z_oi y * 2000 + idx) else none
def z_clg (y idx : Nat) : Option Int64 := if idx < 2000 then z_key z_clgT (z_oi y * 2000 + idx) else none
def z_sta (y idx : Nat) : Option (Nat × Nat) := if idx < 2000 then z_key z_staT (z_oi y * 2000 + idx) else none
def z_sv (k : Nat) : z_V := if k = 0 then .inr (.inr (some 1)) else if k = 1 then .inr (.inr (some 2)) else if k = 2 then .inl 1 else .inr (.inr (some 5))
def z_str (y idx : Nat) : Bool := decide (idx < 2000) && z_strT.contains (z_oi y * 2000 + idx)
def z_ins (y pc : Nat) : Option (Instr × Nat) := z_key (z_cod.getD y []) pc
def z_cmp (c : ClassFile.Cond) (x y : Int32) : Bool := match c with
  | .eq => decide (x = y) | .ne => decide (¬ x = y) | .lt => decide (x < y) | .ge => decide (y ≤ x) | .gt => decide (y < x) | .le => decide (x ≤ y)
/-- a local is written: nothing of two words may stand ahead of it -/
def z_isL (v : Option (Option z_V)) : Bool := match v with | some (some (.inr (.inl _))) => true | _ => false
def z_set (L : z_L) (i : Nat) (v : z_V) : Option z_L := if i < L.length ∧ (i = 0 ∨ z_isL L[i-1]? = false) ∧ z_isL L[i]? = false then some (L.set i (some v)) else none
def z_cat (v : z_V) : Nat := match v with | .inr (.inl _) => 2 | _ => 1
def z_cats : List z_V → Nat
  | [] => 0
  | v :: l => z_cat v + z_cats l
def z_tgt (pc : Nat) (off : Int) : Nat := ((pc : Int) + off).toNat
def z_go (pc : Nat) (L : z_L) (S : List z_V) (h : z_H) : Option z_A := some (.inl (pc, L, S, h))
def z_jmp (pc : Nat) (off : Int) (L : z_L) (S : List z_V) (h : z_H) : Option z_A := if 0 ≤ (pc : Int) + off then z_go (z_tgt pc off) L S h else none
def z_br (pc : Nat) (off : Int) (b : Bool) (L : z_L) (S : List z_V) (h : z_H) : Option z_A := if 0 ≤ (pc : Int) + off then (if b = true then z_go (z_tgt pc off) L S h else z_go (pc + 3) L S h) else none
def z_lI (L : z_L) (i : Nat) : Option Int32 := match L[i]? with | some (some (.inl x)) => some x | _ => none
def z_lR (L : z_L) (i : Nat) : Option (Option Nat) := match L[i]? with | some (some (.inr (.inr x))) => some x | _ => none
def z_lJ (L : z_L) (i : Nat) : Option Int64 := match L[i]? with | some (some (.inr (.inl x))) => some x | _ => none
def z_new (ci : Nat) (h : z_H) : z_H := (h.1 + 1, h.2.1 + (z_fN.getD ci []).length, z_upd h.2.2 h.1 (.inr (.inr (ci, (z_fN.getD ci []).map z_dv))))
def z_nwI (t n : Nat) (h : z_H) : z_H := (h.1 + 1, h.2.1 + n, z_upd h.2.2 h.1 (.inl (t, n, fun _ => 0)))
def z_nwR (t n : Nat) (h : z_H) : z_H := (h.1 + 1, h.2.1 + n, z_upd h.2.2 h.1 (.inr (.inl (t, n, fun _ => none))))
def z_at (a : ArrayType) : Option Nat := match a with | .int => some 0 | .boolean => some 1 | .byte => some 2 | _ => none
def z_rk (y : Nat) : Nat := z_rks.getD y 99
def z_bin (pc : Nat) (L : z_L) (S : List z_V) (h : z_H) (f : Int32 → Int32 → Int32) : Option z_A := match S with
  | .inl b :: .inl a :: S => z_go (pc + 1) L (.inl (f a b) :: S) h
  | _ => none
def z_div (pc : Nat) (L : z_L) (S : List z_V) (h : z_H) (f : Int32 → Int32 → Int32) : Option z_A := match S with
  | .inl b :: .inl a :: S => if b = 0 then none else z_go (pc + 1) L (.inl (f a b) :: S) h
  | _ => none
def z_una (pc : Nat) (L : z_L) (S : List z_V) (h : z_H) (f : Int32 → z_V) : Option z_A := match S with
  | .inl a :: S => z_go (pc + 1) L (f a :: S) h
  | _ => none
def z_shl64 (pc : Nat) (L : z_L) (S : List z_V) (h : z_H) (f : Int64 → Int32 → Int64) : Option z_A := match S with
  | .inl b :: .inr (.inl a) :: S => z_go (pc + 1) L (.inr (.inl (f a b)) :: S) h
  | _ => none
def z_bin64 (pc : Nat) (L : z_L) (S : List z_V) (h : z_H) (f : Int64 → Int64 → Int64) : Option z_A := match S with
  | .inr (.inl b) :: .inr (.inl a) :: S => z_go (pc + 1) L (.inr (.inl (f a b)) :: S) h
  | _ => none
def z_stl (pc : Nat) (i : Nat) (L : z_L) (S : List z_V) (h : z_H) (r : Bool) : Option z_A := match S with
  | .inl x :: S => if r then none else (z_set L i (.inl x)).bind fun L => z_go pc L S h
  | .inr (.inr x) :: S => if r then (z_set L i (.inr (.inr x))).bind fun L => z_go pc L S h else none
  | _ => none
def z_do (y pc : Nat) (i : Instr) (L : z_L) (S : List z_V) (h : z_H) : Option z_A := match i with
  | .iconst n => z_go (pc + 1) L (.inl (Int32.ofInt n) :: S) h
  | .bipush n => z_go (pc + 2) L (.inl (Int8.ofInt n).toInt32 :: S) h
  | .sipush n => z_go (pc + 3) L (.inl (Int16.ofInt n).toInt32 :: S) h
  | .ldc k => if z_str y k then z_go (pc + 2) L (.inr (.inr (some 3)) :: S) h else (z_cst y k).bind fun v => z_go (pc + 2) L (.inl v :: S) h
  | .ldc_w k => (z_cst y k).bind fun v => z_go (pc + 3) L (.inl v :: S) h
  | .ldc2_w k => (z_clg y k).bind fun v => z_go (pc + 3) L (.inr (.inl v) :: S) h
  | .aconst_null => z_go (pc + 1) L (.inr (.inr none) :: S) h
  | .iload k => (z_lI L k).bind fun v => z_go (pc + 2) L (.inl v :: S) h
  | .iload_n k => (z_lI L k).bind fun v => z_go (pc + 1) L (.inl v :: S) h
  | .lload_n k => (z_lJ L k).bind fun v => z_go (pc + 1) L (.inr (.inl v) :: S) h
  | .aload k => (z_lR L k).bind fun v => z_go (pc + 2) L (.inr (.inr v) :: S) h
  | .aload_n k => (z_lR L k).bind fun v => z_go (pc + 1) L (.inr (.inr v) :: S) h
  | .istore k => z_stl (pc + 2) k L S h false
  | .istore_n k => z_stl (pc + 1) k L S h false
  | .astore k => z_stl (pc + 2) k L S h true
  | .astore_n k => z_stl (pc + 1) k L S h true
  | .iinc k n => (z_lI L k).bind fun v => (z_set L k (.inl (v + Int32.ofInt n))).bind fun L => z_go (pc + 3) L S h
  | .iadd => z_bin pc L S h fun a b => a + b
  | .isub => z_bin pc L S h fun a b => a - b
  | .imul => z_bin pc L S h fun a b => a * b
  | .iand => z_bin pc L S h fun a b => a &&& b
  | .ior => z_bin pc L S h fun a b => a ||| b
  | .ixor => z_bin pc L S h fun a b => a ^^^ b
  | .ishl => z_bin pc L S h fun a b => a <<< (b &&& 31)
  | .ishr => z_bin pc L S h fun a b => a >>> (b &&& 31)
  | .iushr => z_bin pc L S h fun a b => (a.toUInt32 >>> (b.toUInt32 &&& Int32.toUInt32 31)).toInt32
  | .idiv => z_div pc L S h fun a b => a / b
  | .irem => z_div pc L S h fun a b => a - a / b * b
  | .ineg => z_una pc L S h fun a => .inl (-a)
  | .i2l => z_una pc L S h fun a => .inr (.inl a.toInt64)
  | .i2b => z_una pc L S h fun a => .inl a.toInt8.toInt32
  | .i2c => z_una pc L S h fun a => .inl (a.toUInt32 % 65536).toInt32
  | .l2i => match S with | .inr (.inl a) :: S => z_go (pc + 1) L (.inl a.toInt32 :: S) h | _ => none
  | .lshl => z_shl64 pc L S h fun a b => a <<< (b.toInt64 &&& 63)
  | .lshr => z_shl64 pc L S h fun a b => a >>> (b.toInt64 &&& 63)
  | .land => z_bin64 pc L S h fun a b => a &&& b
  | .lor => z_bin64 pc L S h fun a b => a ||| b
  | .dup => match S with | v :: S => if z_cat v = 1 then z_go (pc + 1) L (v :: v :: S) h else none | _ => none
  | .pop => match S with | v :: S => if z_cat v = 1 then z_go (pc + 1) L S h else none | _ => none
  | .dup2 => match S with | v :: w :: S => if z_cat v = 1 ∧ z_cat w = 1 then z_go (pc + 1) L (v :: w :: v :: w :: S) h else none | _ => none
  | .goto off => z_jmp pc off L S h
  | .ifCond c off => match S with | .inl a :: S => z_br pc off (z_cmp c a 0) L S h | _ => none
  | .if_icmp c off => match S with | .inl b :: .inl a :: S => z_br pc off (z_cmp c a b) L S h | _ => none
  | .ifnull off => match S with | .inr (.inr r) :: S => (z_nul r).bind fun q => z_br pc off q L S h | _ => none
  | .ifnonnull off => match S with | .inr (.inr r) :: S => (z_nul r).bind fun q => z_br pc off (!q) L S h | _ => none
  | .tableswitch dflt lo hi offs => match S with
    | .inl a :: S => if a.toInt < lo ∨ hi < a.toInt then z_jmp pc dflt L S h else (offs[(a.toInt - lo).toNat]?).bind fun off => z_jmp pc off L S h
    | _ => none
  | .ireturn => match S with
    | [.inl x] => if z_rk y = 1 ∨ (z_rk y = 2 ∧ (x = 0 ∨ x = 1)) ∨ (z_rk y = 3 ∧ x.toInt8.toInt32 = x) ∨ (z_rk y = 4 ∧ (x.toUInt32 % 65536).toInt32 = x) then some (.inr (.inr (some (.inl x)))) else none
    | _ => none
  | .areturn => match S with | [.inr (.inr x)] => if z_rk y = 5 then some (.inr (.inr (some (.inr (.inr x))))) else none | _ => none
  | .return_ => match S with | [] => if z_rk y = 0 then some (.inr (.inr none)) else none | _ => none
  | .getstatic k => (z_sta y k).bind fun q => z_go (pc + 3) L (z_sv q.1 :: S) h
  | .getfield k => match S with
    | .inr (.inr r) :: S => (z_fld y k).bind fun q => if q.2.2.1 = 2 then (z_gR h r q.1 q.2.1).bind fun x => z_go (pc + 3) L (.inr (.inr x) :: S) h else (z_gI h r q.1 q.2.1).bind fun x => z_go (pc + 3) L (.inl x :: S) h
    | _ => none
  | .putfield k => match S with
    | .inl x :: .inr (.inr r) :: S => (z_fld y k).bind fun q => if q.2.2.1 ≠ 2 ∧ q.1 < 12 ∧ (q.2.2.2 = true → z_kns.getD y 9 = 2 ∧ q.1 = z_oi y) then (z_pI q.2.2.1 h r q.1 q.2.1 x).bind fun h => z_go (pc + 3) L S h else none
    | .inr (.inr x) :: .inr (.inr r) :: S => (z_fld y k).bind fun q => if q.2.2.1 = 2 ∧ q.1 < 12 ∧ (q.2.2.2 = true → z_kns.getD y 9 = 2 ∧ q.1 = z_oi y) then (z_pR h r q.1 q.2.1 x).bind fun h => z_go (pc + 3) L S h else none
    | _ => none
  | .iaload => match S with | .inl i :: .inr (.inr r) :: S => (z_ldI h r i).bind fun x => z_go (pc + 1) L (.inl x :: S) h | _ => none
  | .baload => match S with | .inl i :: .inr (.inr r) :: S => (z_ldB h r i).bind fun x => z_go (pc + 1) L (.inl x :: S) h | _ => none
  | .aaload => match S with | .inl i :: .inr (.inr r) :: S => (z_ldR h r i).bind fun x => z_go (pc + 1) L (.inr (.inr x) :: S) h | _ => none
  | .iastore => match S with | .inl x :: .inl i :: .inr (.inr r) :: S => (z_stI h r i x).bind fun h => z_go (pc + 1) L S h | _ => none
  | .bastore => match S with | .inl x :: .inl i :: .inr (.inr r) :: S => (z_stB h r i x).bind fun h => z_go (pc + 1) L S h | _ => none
  | .aastore => match S with | .inr (.inr x) :: .inl i :: .inr (.inr r) :: S => (z_stR h r i x).bind fun h => z_go (pc + 1) L S h | _ => none
  | .arraylength => match S with | .inr (.inr r) :: S => (z_len h r).bind fun x => z_go (pc + 1) L (.inl x :: S) h | _ => none
  | .new k => (z_cls y k).bind fun ci => z_go (pc + 3) L (.inr (.inr (some h.1)) :: S) (z_new ci h)
  | .newarray t => match S with | .inl n :: S => (z_at t).bind fun t => if 0 ≤ n ∧ n.toNatClampNeg ≤ 100000 then z_go (pc + 2) L (.inr (.inr (some h.1)) :: S) (z_nwI t n.toNatClampNeg h) else none | _ => none
  | .anewarray k => match S with | .inl n :: S => (z_anw y k).bind fun t => if 0 ≤ n ∧ n.toNatClampNeg ≤ 100000 then z_go (pc + 3) L (.inr (.inr (some h.1)) :: S) (z_nwR t n.toNatClampNeg h) else none | _ => none
  | .invokestatic k => (z_mtd y k).bind fun q => if q.1 < 999 ∧ z_kns.getD q.1 9 = 0 ∧ (z_nps.getD q.1 0) ≤ S.length ∧ z_cats (S.drop (z_nps.getD q.1 0)) ≤ 8 then some (.inr (.inl (q.1, (S.take (z_nps.getD q.1 0)).reverse, pc + 3, L, S.drop (z_nps.getD q.1 0)))) else none
  | .invokevirtual k => (z_mtd y k).bind fun q => match S.drop (z_nps.getD q.1 0) with
    | .inr (.inr r) :: S' => if q.1 < 999 ∧ z_cats S' ≤ 8 ∧ z_kns.getD q.1 9 = 1 then (z_ob h r (z_oi q.1)).bind fun _ => some (.inr (.inl (q.1, .inr (.inr r) :: (S.take (z_nps.getD q.1 0)).reverse, pc + 3, L, S'))) else none
    | _ => none
  | .invokespecial k => (z_mtd y k).bind fun q => if q.1 = 999 then (match S with | .inr (.inr r) :: S' => (z_nul r).bind fun b => if b = false ∧ z_cats S' ≤ 8 then z_go (pc + 3) L S' h else none | _ => none) else match S.drop (z_nps.getD q.1 0) with
    | .inr (.inr r) :: S' => (z_nul r).bind fun b => if b = false ∧ q.1 < 999 ∧ z_cats S' ≤ 8 ∧ z_kns.getD q.1 9 = 2 then some (.inr (.inl (q.1, .inr (.inr r) :: (S.take (z_nps.getD q.1 0)).reverse, pc + 3, L, S'))) else none
    | _ => none
  | _ => none
def z_il (i : Instr) (n : Nat) : Bool := match i with
  | .bipush _ | .ldc _ | .iload _ | .aload _ | .istore _ | .astore _ | .newarray _ => n == 2
  | .sipush _ | .ldc_w _ | .ldc2_w _ | .iinc _ _ | .goto _ | .ifCond _ _ | .if_icmp _ _ | .ifnull _ | .ifnonnull _ | .getstatic _ | .getfield _ | .putfield _ | .new _ | .anewarray _ | .invokestatic _ | .invokevirtual _ | .invokespecial _ => n == 3
  | .tableswitch _ _ _ _ => true
  | _ => n == 1
/-- at a label what isn't wanted any more is forgotten -/
def z_lab (y pc : Nat) : Option (List Bool) := z_key (z_lbs.getD y []) pc
def z_msk : List Bool → z_L → z_L
  | b :: m, v :: L => (if b = true then v else none) :: z_msk m L
  | _, L => L
def z_kl (y pc : Nat) (L : z_L) : z_L := match z_lab y pc with | none => L | some m => z_msk m L
def z_act (y pc : Nat) (L : z_L) (S : List z_V) (h : z_H) : Option z_A := (z_ins y pc).bind fun q => z_do y pc q.1 (z_kl y pc L) S h
/-- the locals at a method's entry -/
def z_slots : List z_V → z_L
  | [] => []
  | .inr (.inl v) :: l => some (.inr (.inl v)) :: none :: z_slots l
  | v :: l => some v :: z_slots l
def z_ent (y : Nat) (as : List z_V) : z_L := z_slots as ++ List.replicate (z_mls.getD y 0 - (z_slots as).length) none
def z_nd (d y : Nat) : Option Nat := if z_hts.getD y 0 = 0 then (if 2 ≤ d then some (d - 1) else none) else if z_hts.getD y 0 < d then some (z_hts.getD y 0) else none
abbrev z_R : Type := Option z_V × z_H
def z_run : Nat → Nat → Nat → Nat → z_L → List z_V → z_H → Option z_R
  | 0, _, _, _, _, _, _ => none
  | n + 1, d, y, pc, L, S, h => match z_act y pc L S h with
    | none => none
    | some (.inl q) => z_run n d y q.1 q.2.1 q.2.2.1 q.2.2.2
    | some (.inr (.inl q)) => match z_nd d q.1 with
      | none => none
      | some d' => if (z_slots q.2.1).length ≤ z_mls.getD q.1 0 then (match z_run n d' q.1 0 (z_ent q.1 q.2.1) [] h with
        | none => none
        | some r => z_run n d y q.2.2.1 q.2.2.2.1 (r.1.toList ++ q.2.2.2.2) r.2) else none
    | some (.inr (.inr v)) => some (v, h)
