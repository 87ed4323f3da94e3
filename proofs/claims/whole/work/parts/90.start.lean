/-! the law's start: what the Statement gives, in the small machine's words -/
def R_law : String := "StuntSetLaw"
def lw_P (b : Addr) (xs : List Int32) (args : Array Value) (s : State) : Prop := args = #[.ref b] ∧ s.IntsAt b xs ∧ xs.length ≤ 3584 ∧ (Jvm.Cond.and given_1 narrow_1).before args s = true
def lw_Q (_ : Array Value) (s : State) (o : Outcome) (t : State) : Prop := o = .returned (some (.int 1)) ∧ Framed s o t [] 600000 7302250
def lw_Z (below : List Frame) (a : Array Value) (s : State) : State → Prop := fun t => ∃ o, t.status = .running ∧ Ended t below o ∧ lw_Q a s o t
/-- the law's own end, with 1 on the stack, nothing written that was there before, its room as the claim has it -/
theorem lw_ret {p : Program} {l : Launch} {e : Env} {s : State} {m : MethodId} {below : List Frame} {meth : Method} {c : Code} {b : Nat} (hx : p.tables.exec = Jvm.exec) (hb : c.code = code) (hr : meth.sig.returnType = ret) (hlocks : meth.locks = false) {pc : Nat} {H : Heap} {ls : Array Slot} (hdg : decode code pc = .ok (.ireturn, 1)) : W p l e room_1 s m #[Value.ref b] below meth c H [] 600000 7302250 (lw_Z below #[Value.ref b] s) (F0 m pc ls [.int 1]) := by
  intro T hT X
  obtain ⟨fs, hret, hrun, hended, hW, hframe⟩ := X.leave (v := some (.int 1)) (hlocks := hlocks) (fun h => by rw [hr] at h; cases h)
  have hmeth' : T.vm.method? m = some meth := X.method'
  refine ⟨T.setFrames fs, ?_, .returned (some (.int 1)), hrun, hended, rfl, ⟨_, rfl⟩, hW, hframe⟩
  jvm_step X.here [X.here.top, hx, hb, hdg, hmeth', hr, ret, narrow_b1]
  (try refine ⟨rfl, ?_⟩); (try refine ⟨rfl, ?_⟩)
  first | (intro acts; rw [hret _ acts rfl rfl rfl]) | rw [hret _ _ rfl rfl rfl]
  exact Steps.refl _
/-- what holds at the law's entry: the machine, the code, the tables' words (any of lw_tbl by 'hts w (by decide +kernel)'), the script of L ints xs at the cell b, what the Statement gives of the start (any of its parts by flat_of_before) -/
def lw_At (p : Program) (s : State) (m : MethodId) (meth : Method) (c : Code) (b L : Nat) (xs : Nat → Int32) : Prop :=
  p.tables.exec = Jvm.exec ∧ c.code = code ∧ meth.sig.returnType = ret ∧ c.maxLocals = 4 ∧ s.vm.findClass R_law = some m.cls ∧ (∀ w ∈ lw_tbl, w.before #[Value.ref b] s = true) ∧ va_X b L xs s s.heap ∧ b < s.heap.size ∧ meth.locks = false ∧ (Jvm.Cond.and given_1 narrow_1).before #[Value.ref b] s = true
section ZL
theorem z_arrI {args : Array Value} {s : State} {ty : FieldType} (h : (Cond.arrayClass ty).before args s = true) : ∃ cA : ClassId, ArrOfT s cA ty ∧ s.vm.findClass ("[" ++ ty.toString) = some cA := by
  obtain ⟨cA, kA, comp, h1, h2, h3⟩ := Cond.arrayClass_spec h
  exact ⟨cA, fun n z => ⟨fun k h => (by cases h), kA, h2, comp, h3⟩, h1⟩
theorem z_arrO {args : Array Value} {s : State} {C : String} (h : (Cond.arrayOver (.object C)).before args s = true) : ∃ cA : ClassId, ArrOfT s cA (.object C) ∧ va_RA s cA (.object C) := by
  obtain ⟨comp, cA, kA, h1, h2, h3, h4, h5⟩ := Cond.arrayOver_spec h
  exact ⟨cA, fun n z => ⟨fun k h => (by cases h), kA, h3, comp, h4⟩, kA, comp, h3, h4, h1, h5⟩
/-- a static array of eight numbers -/
theorem z_stat8 {args : Array Value} {s : State} {n : String} {f : Nat → Int32} (hl : (Cond.laysStatic "StuntSet" n "[I").before args s = true) (hini : (Cond.initialized "StuntSet").before args s = true) (harr : (Cond.arrayOf (.static "StuntSet" n "[I") .int).before args s = true) (hlen : (Cond.eq (.length (.static "StuntSet" n "[I")) (.int 8)).before args s = true)
    (hel : ∀ j : Nat, j < 8 → (Cond.eq (.elem (.static "StuntSet" n "[I") (.int (Int32.ofNat j))) (.int (f j))).before args s = true) : ∃ t, va_Z "StuntSet" n "[I" (.ref t) (fun q => s.heap.size ≤ q) s s.heap ∧ va_T .int t 8 (fun j => .int (f j)) (fun q => s.heap.size ≤ q) s s.heap := by
  have hA : ∀ a : Nat, a < s.heap.size → ¬ (fun q => s.heap.size ≤ q) a := fun a h => Nat.not_le.mpr h
  obtain ⟨t, h1, h2⟩ := va_Tof (f := fun j => .int (f j)) (N := 8) (by decide) harr (va_eqt hlen) (fun j hj => va_eqt (hel j hj)) hA
  exact ⟨t, va_Zof hl hini h1 hA, h2⟩
theorem z_start {p : Program} {s : State} {m : MethodId} {meth : Method} {c : Code} {b L : Nat} {xs : Nat → Int32} (hL : L ≤ 3584) (C0 : lw_At p s m meth c b L xs) : ∃ E : z_Env, z_St E ∧ e_s E = s ∧ e_p E 0 = b ∧ e_L E = L ∧ e_x E = xs := by
  obtain ⟨hx, hb, hr, hml, hown, hts, hX, hbl, hlocks, hgv⟩ := C0
  have hs := flat_of_before _ hgv
  have hA : ∀ a : Nat, a < s.heap.size → ¬ (fun q => s.heap.size ≤ q) a := fun a h => Nat.not_le.mpr h
  have hk : ∀ k : Nat, ∃ q : ClassId × (Nat → Nat), k < 12 → u_Kn s (z_vc k).1 (z_T k) (z_N k) q.1 q.2 := by
    intro k
    by_cases hk : k < 12
    · obtain ⟨cC, iS, h⟩ := u_known (ws := u_ws (z_vc k).1 (z_T k) (z_N k)) (fun w h => hts w (z_layA k hk w h).1) (fun _ h => h) (hts _ (by rw [(z_vcA k hk).2.1]; exact (z_vcA k hk).2.2.2.2.1))
      exact ⟨(cC, iS), fun _ => h⟩
    · exact ⟨(0, fun _ => 0), fun h => absurd h hk⟩
  obtain ⟨dK, hdK⟩ := Classical.axiomOfChoice hk
  obtain ⟨a0, ha0, hn0⟩ := z_arrI (hts _ z_okRA.1)
  obtain ⟨a1, ha1, hn1⟩ := z_arrI (hts _ z_okRA.2.1)
  obtain ⟨a2, ha2, hn2⟩ := z_arrI (hts _ z_okRA.2.2)
  obtain ⟨a3, ha3, hn3⟩ := z_arrO (C := "StuntSet$Mover") (hts _ z_ao3)
  obtain ⟨a4, ha4, hn4⟩ := z_arrO (C := "StuntSet$Camera") (hts _ z_ao4)
  obtain ⟨a5, ha5, hn5⟩ := z_arrO (C := "StuntSet$Text") (hts _ z_ao5)
  obtain ⟨tx, hzx, htx⟩ := z_stat8 (n := "DIRECTION_X") (f := z_dx) (hts _ z_lsX) (hts _ (z_vcA 10 (by decide)).2.2.2.2.2) (hs _ (by decide +kernel)) (hs _ (by decide +kernel)) (by
    intro j hj
    match j, hj with
    | 0, _ | 1, _ | 2, _ | 3, _ | 4, _ | 5, _ | 6, _ | 7, _ => exact hs _ (by decide +kernel)
    | j + 8, h => omega)
  obtain ⟨ty, hzy, hty⟩ := z_stat8 (n := "DIRECTION_Y") (f := z_dy) (hts _ z_lsY) (hts _ (z_vcA 10 (by decide)).2.2.2.2.2) (hs _ (by decide +kernel)) (hs _ (by decide +kernel)) (by
    intro j hj
    match j, hj with
    | 0, _ | 1, _ | 2, _ | 3, _ | 4, _ | 5, _ | 6, _ | 7, _ => exact hs _ (by decide +kernel)
    | j + 8, h => omega)
  have hzc : va_Z "java/lang/String" "COMPACT_STRINGS" "Z" (.int 1) (fun q => s.heap.size ≤ q) s s.heap := va_Zof (hts _ z_lsC) (hts _ z_inS) (va_eqi (hs _ (by decide +kernel))) hA
  have hzq := va_Zqof (A := fun q => s.heap.size ≤ q) (hts _ z_lsQ) (hts _ z_inP) (hs _ (by decide +kernel)) hA
  obtain ⟨pv, hpv, hzp⟩ : ∃ pv : Value, (pv = .null ∨ ∃ t, pv = .ref t) ∧ va_Z "jdk/internal/util/Preconditions" "SIOOBE_FORMATTER" "Ljava/util/function/BiFunction;" pv (fun q => s.heap.size ≤ q) s s.heap := by
    rcases hzq with h | ⟨t, h⟩
    · exact ⟨.null, Or.inl rfl, h⟩
    · exact ⟨.ref t, Or.inr ⟨t, rfl⟩, h⟩
  obtain ⟨adK, adV, hk1, hk2⟩ := vk_Sof (args := #[Value.ref b]) (s := s) (N := 1) (tm := fun _ => .string "StuntSet$Text" 22) (len := [7]) (byt := [[119, 103, 115, 116, 104, 113, 98]]) (A := fun q => s.heap.size ≤ q) (fun i hi => by rw [show i = 0 by omega]; decide) (fun i hi => hs _ (by decide +kernel)) (fun i hi => hs _ (by decide +kernel)) (fun i hi => hs _ (by decide +kernel)) (fun i hi => by rw [show i = 0 by omega]; exact hs _ (by decide +kernel)) (fun i hi j hj => by
    have h0 : i = 0 := by omega
    subst h0
    have hj' : j < 7 := hj
    match j, hj' with
    | 0, _ | 1, _ | 2, _ | 3, _ | 4, _ | 5, _ | 6, _ => exact hs _ (by decide +kernel)
    | j + 7, h => omega) (fun i j hi hj hne => absurd (show i = j by omega) hne) hA
  obtain ⟨s1, s2, s3, s4⟩ := hk1.1 0 (by decide)
  have hstr : vk_R "StuntSet$Text" 22 "wgsthqb" (adK 0) s := vk_R.of (hts _ z_srL) (hk2 0 (by decide))
  refine ⟨(s, #[Value.ref b], fun k => (dK k).1, fun k => (dK k).2, fun t => if t = 0 then a0 else if t = 1 then a1 else if t = 2 then a2 else if t = 3 then a3 else if t = 4 then a4 else a5, fun a => if a = 0 then b else if a = 1 then tx else if a = 2 then ty else if a = 3 then adK 0 else adV 0, pv, L, xs), ⟨hts, ?_, ?_, ⟨hX, hbl, ?_⟩, htx, hty, s4, s1, s3, s2, hzx, hzy, hzc, hzp, hstr, hpv⟩, rfl, rfl, rfl, rfl⟩
  · intro k q hq
    obtain ⟨h12, rfl⟩ := z_lt12 hq
    exact hdK k h12
  · intro t ht
    rcases (show t = 0 ∨ t = 1 ∨ t = 2 ∨ t = 3 ∨ t = 4 ∨ t = 5 by omega) with e | e | e | e | e | e <;> subst e
    · exact ⟨ha0, hn0⟩
    · exact ⟨ha1, hn1⟩
    · exact ⟨ha2, hn2⟩
    · exact ⟨ha3, hn3⟩
    · exact ⟨ha4, hn4⟩
    · exact ⟨ha5, hn5⟩
  · show L < 2 ^ 31
    omega
/-- the small machine's start, with the law's script -/
def z_cel0 (L : Nat) (xs : Nat → Int32) (a : Nat) : z_C := if a = 0 then .inl (10, L, xs) else if a = 1 then .inl (10, 8, z_dx) else if a = 2 then .inl (10, 8, z_dy) else if a = 3 then .inr (.inr (12, [.inr (.inr (some 4)), .inl 0])) else if a = 4 then .inl (12, 7, z_wb) else z_junk
def z_h0 (L : Nat) (xs : Nat → Int32) : z_H := (6, 0, z_cel0 L xs)
/-- THE LAW, from its entry, out of what the small machine's run of it comes to -/
theorem whole_of (hrun : ∀ (L : Nat) (xs : Nat → Int32), L ≤ 3584 → ∃ h' : z_H, z_cI 64 233 [.inr (.inr (some 0))] (z_h0 L xs) = some (1, h') ∧ h'.1 ≤ 600000 ∧ h'.2.1 ≤ 7302250)
    {p : Program} {e : Env} {s : State} {m : MethodId} {below : List Frame} {meth : Method} {c : Code} (l : Launch) {b L : Nat} {xs : Nat → Int32} (hL : L ≤ 3584) (C0 : lw_At p s m meth c b L xs) : W p l e room_1 s m #[Value.ref b] below meth c s.heap [] 0 0 (lw_Z below #[Value.ref b] s) (entryFrame m ([Value.ref b] : List Value).toArray 4) := by
  obtain ⟨E, hS, e1, e2, e3, e4⟩ := z_start hL C0
  obtain ⟨hx, hb, hr, hml, hown, hts, hX, hbl, hlocks, hgv⟩ := id C0
  obtain ⟨h', hc, hc1, hc2⟩ := hrun L xs hL
  have hbase : z_base E = s.heap.size := by unfold z_base; rw [e1]
  have ok : z_ok E (z_h0 L xs) s.heap := by
    refine ⟨?_, Nat.le_refl _, fun q hq => by rw [e1], fun a h1 h2 => absurd (show a < 6 from h2) (by omega), fun a ha => ?_, fun a ha => ?_⟩
    · rw [hbase]; rfl
    · show z_cel0 L xs a = z_ro E a
      unfold z_cel0 z_ro
      rw [e3, e4]
    · show z_cel0 L xs a = z_junk
      have h6 : 6 ≤ a := ha
      unfold z_cel0
      rw [if_neg (by omega), if_neg (by omega), if_neg (by omega), if_neg (by omega), if_neg (by omega)]
  -- the run
  obtain ⟨n, hn⟩ : ∃ n, z_run n 64 233 0 (z_ent 233 [.inr (.inr (some 0))]) [] (z_h0 L xs) = some (some (.inl 1), h') := by
    unfold z_cI z_bg at hc
    cases hbig : z_big 64 233 0 (z_ent 233 [.inr (.inr (some 0))]) [] (z_h0 L xs) with
    | none => rw [hbig] at hc; cases hc
    | some r =>
      rw [hbig] at hc
      obtain ⟨n, hn⟩ := z_big_iff.mp hbig
      obtain ⟨v, hh⟩ := r
      have hc' : z_rI (v, hh) = some (1, h') := hc
      unfold z_rI at hc'
      split at hc'
      case h_1 x hx1 =>
        have hv : v = some (.inl x) := hx1
        obtain ⟨q1, q2⟩ := Prod.mk.inj (Option.some.inj hc')
        refine ⟨n, ?_⟩
        rw [hn, hv, q1]
        exact congrArg (fun z => some (some (Sum.inl (1 : Int32)), z)) q2
      case h_2 => cases hc'
  have hw : (e_s E).WarmedH s.vm := by rw [e1]; exact State.WarmedH.refl s
  have C : z_Cx E 233 p s m meth c := ⟨hx, hb, hml, hown, hw, hlocks, fun h2 => absurd h2 (by decide), hr⟩
  obtain ⟨ls, f1, f2, f3⟩ := z_entry hS (y := 233) (as := [.inr (.inr (some 0))]) (by decide) m
  have hav : ([.inr (.inr (some 0))] : List z_V).map (z_tv E) = [Value.ref b] := by
    show [z_rv E (some 0)] = [Value.ref b]
    rw [z_rv_ne (by decide)]
    show [Value.ref (e_p E 0)] = _
    rw [e2]
  rw [hav] at f1
  have f1' : entryFrame m ([Value.ref b] : List Value).toArray 4 = F0 m 0 ls [] := f1
  rw [f1']
  have hm := z_mono _ _ _ _ _ _ _ _ _ hn
  have hm1 : (6 : Nat) ≤ h'.1 := hm.1
  refine z_sound hS l n 64 233 0 _ [] (z_h0 L xs) (some (.inl 1)) h' (by decide) (by decide) hn (e := e) (R := room_1) (args := #[Value.ref b]) (below := below) (H := s.heap) (locs := []) (cells := 0) (slots := 0) (ls := ls) (Q := lw_Z below #[Value.ref b] s) C (by decide) (by decide) (by show 0 + (h'.1 - 6) ≤ 600000; omega) (by show 0 + (h'.2.1 - 0) ≤ 7302250; omega) f2 f3 ok (fun x hx => by cases hx) ?_
  intro H' locs' ls' pc' i hdg hro ok' hlo
  rcases hro with ⟨rfl, x, hv, hc⟩ | ⟨-, -, x, hv⟩ | ⟨-, -, hv⟩
  · cases hv
    refine va_forget (fun q hq => by have := hlo q hq; rw [hbase] at this; exact this) ?_
    refine W.widen (k := 600000) (n := 7302250) (by show 0 + (h'.1 - 6) ≤ 600000; omega) (by show 0 + (h'.2.1 - 0) ≤ 7302250; omega) ?_
    exact lw_ret hx hb hr hlocks hdg
  · cases hv
  · cases hv
end ZL
