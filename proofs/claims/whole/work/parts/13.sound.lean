section ZT
variable {E : z_Env}
theorem z_msk_len : ∀ (m : List Bool) (L : z_L), (z_msk m L).length = L.length
  | [], L => by unfold z_msk; rfl
  | b :: m, [] => by unfold z_msk; rfl
  | b :: m, v :: L => by unfold z_msk; rw [List.length_cons, List.length_cons, z_msk_len m L]
theorem z_msk_at : ∀ (m : List Bool) (L : z_L) (i : Nat) (v : z_V), (z_msk m L)[i]? = some (some v) → L[i]? = some (some v)
  | [], L, i, v, h => by unfold z_msk at h; exact h
  | b :: m, [], i, v, h => by unfold z_msk at h; exact h
  | b :: m, w :: L, 0, v, h => by
    unfold z_msk at h
    simp only [List.getElem?_cons_zero, Option.some.injEq] at h ⊢
    split at h
    · exact h
    · cases h
  | b :: m, w :: L, i + 1, v, h => by
    unfold z_msk at h
    simp only [List.getElem?_cons_succ] at h ⊢
    exact z_msk_at m L i v h
theorem z_lv_kl {ls : Array Slot} {L : z_L} {y pc : Nat} (h : z_lv E ls L) : z_lv E ls (z_kl y pc L) := by
  unfold z_kl
  split
  · exact h
  · rename_i m _
    exact ⟨by rw [z_msk_len]; exact h.1, h.2.1, fun i v hi => h.2.2 i v (z_msk_at _ _ _ _ hi)⟩
/-- the words of a method's contract: its code alone -/
def z_ws (y : Nat) : List Cond := [.code (z_nm y) (z_bc y) (z_ml y) (z_rt y)]
def z_rm (d mc ms : Nat) : Room := { frames := d, cells := mc, slots := ms, locals := 40 * d }
def z_Pc (E : z_Env) (as : List z_V) (h : z_H) : Array Value → State → Prop := fun v U => v = (as.map (z_tv E)).toArray ∧ z_ok E h U.heap ∧ (e_s E).WarmedH U.vm
def z_Qc (E : z_Env) (v : Option z_V) (h : z_H) : Array Value → State → Outcome → State → Prop := fun _ _ o t => o = .returned (v.map (z_tv E)) ∧ z_ok E h t.heap
/-- what a return may count on -/
def z_Rt (E : z_Env) (y : Nat) (v : Option z_V) (h' : z_H) (p : Program) (l : Launch) (e : Env) (R : Room) (s : State) (m : MethodId) (args : Array Value) (below : List Frame) (meth : Method) (c : Code) (cells slots : Nat) (Q : State → Prop) : Prop :=
  ∀ (H' : Heap) (locs' : List Loc) (ls' : Array Slot) (pc' : Nat) (i : Instr), decode (z_bc y) pc' = .ok (i, 1) → z_retOk y i v → z_ok E h' H' → (∀ x ∈ locs', z_base E ≤ x.base) → W p l e R s m args below meth c H' locs' cells slots Q (F0 m pc' ls' (v.toList.map (z_tv E)))
theorem z_ret (hS : z_St E) {y : Nat} (hy : y < 234) {v : Option z_V} {h' : z_H} {p : Program} {l : Launch} {e : Env} {R : Room} {s : State} {m : MethodId} {args : Array Value} {below : List Frame} {meth : Method} {c : Code} {cells slots : Nat} (C : z_Cx E y p s m meth c) : z_Rt E y v h' p l e R s m args below meth c cells slots (MQ below (z_Qc E v h') args s cells slots (fun q => z_base E ≤ q)) := by
  obtain ⟨hx, hb, hml, hown, hw, hlk, hnm, hrt⟩ := id C
  obtain ⟨-, hrk, -⟩ := z_okYD y hy
  intro H' locs' ls' pc' i hdg hro ok hlo
  rcases hro with ⟨rfl, x, rfl, hc⟩ | ⟨rfl, hc, x, rfl⟩ | ⟨rfl, hc, rfl⟩
  · have key : ∃ ty, z_rt y = some ty ∧ narrow ty (.int x) = .int x := by
      unfold z_rkOk at hrk
      rcases hc with hc | ⟨hc, hx01⟩ | ⟨hc, h8⟩ | ⟨hc, h16⟩
      · rw [hc] at hrk; exact ⟨.int, by simpa using hrk, rfl⟩
      · rw [hc] at hrk; refine ⟨.boolean, by simpa using hrk, ?_⟩
        rcases hx01 with rfl | rfl <;> decide
      · rw [hc] at hrk; refine ⟨.byte, by simpa using hrk, ?_⟩
        show Value.int x.toInt8.toInt32 = .int x
        rw [h8]
      · rw [hc] at hrk; refine ⟨.char, by simpa using hrk, ?_⟩
        have := pk_nc x
        rw [h16] at this
        exact this
    obtain ⟨ty, h1, h2⟩ := key
    exact W.zret hx hb (hrt.trans h1) h2 (fun t ht _ => ⟨rfl, by rw [ht]; exact ok⟩) hlo hdg hlk
  · have key : ∃ ty, z_rt y = some ty ∧ ((∃ n, ty = .object n) ∨ ∃ t, ty = .array t) := by
      unfold z_rkOk at hrk
      rw [hc] at hrk
      simp only [show ¬ (5 = 0) by decide, show ¬ (5 = 1) by decide, show ¬ (5 = 2) by decide, show ¬ (5 = 3) by decide, show ¬ (5 = 4) by decide, if_false] at hrk
      split at hrk
      case h_1 o ho => exact ⟨_, ho, Or.inl ⟨_, rfl⟩⟩
      case h_2 o ho => exact ⟨_, ho, Or.inr ⟨_, rfl⟩⟩
      case h_3 => cases hrk
    obtain ⟨ty, h1, h2⟩ := key
    exact W.aret hx hb (hrt.trans h1) h2 (z_rvk hS x) (fun t ht _ => ⟨rfl, by rw [ht]; exact ok⟩) hlo hdg hlk
  · have h1 : z_rt y = none := by
      unfold z_rkOk at hrk
      rw [hc] at hrk
      simpa using hrk
    exact W.vret hx hb (hrt.trans h1) (fun t ht _ => ⟨rfl, by rw [ht]; exact ok⟩) hlo hdg hlk
/-- behind a call -/
theorem z_after {p : Program} {l : Launch} {e : Env} {R : Room} {s : State} {m : MethodId} {args : Array Value} {below : List Frame} {meth : Method} {c : Code} {H : Heap} {locs : List Loc} {cells slots mc ms pc : Nat} {Q : State → Prop} {ls : Array Slot} {st0 rest : List Value} {v : Option z_V} {h1 : z_H} {aa : Array Value}
    (hr : va_Run p l e R s m args below meth c H locs cells slots mc ms (F0 m pc ls st0) rest (z_Qc E v h1 aa) (fun q => z_base E ≤ q)) (hlo : ∀ x ∈ locs, z_base E ≤ x.base)
    (kk : ∀ (H1 : Heap) (locs1 : List Loc), z_ok E h1 H1 → (∀ x ∈ locs1, z_base E ≤ x.base) → W p l e R s m args below meth c H1 locs1 (cells + mc) (slots + ms) Q (F0 m (pc + 3) ls ((v.map (z_tv E)).toList ++ rest))) : W p l e R s m args below meth c H locs cells slots Q (F0 m pc ls st0) := by
  intro T hT X
  obtain ⟨v', st₀, t, T', L, h0, X', hL, e1, e2, ⟨hv, hok⟩, st⟩ := hr T hT X
  cases hv
  obtain ⟨t2, a1, b1⟩ := kk T'.heap (locs ++ L) (by rw [e1]; exact hok) (fun q hq => by
    rcases List.mem_append.mp hq with h | h
    · exact hlo q h
    · exact hL q h) T' rfl X'
  exact ⟨t2, st t2 a1, b1⟩
theorem z_Pc_blind {as : List z_V} {h : z_H} : FrameBlind (z_Pc E as h) := fun a U g mk q => ⟨q.1, q.2.1, q.2.2⟩
theorem z_goodws (y : Nat) : GoodIn (z_ws y) (z_ws y) := fun w hw => ⟨hw, good_of_word (by rw [List.mem_singleton.mp hw]; rfl)⟩
theorem z_htsw (hS : z_St E) {s : State} (hw : (e_s E).WarmedH s.vm) {y : Nat} (hy : y < 233) (args : Array Value) : ∀ w ∈ z_ws y, w.before args s = true := fun w h => by
  rw [List.mem_singleton.mp h]
  exact z_word hS hw (z_okYA y hy) rfl args
theorem z_ndOk {d y d' : Nat} (h : z_nd d y = some d') : 1 ≤ d' ∧ d' + 1 ≤ d := by
  unfold z_nd at h
  split at h
  case isTrue =>
    split at h
    case isTrue h2 => cases h; omega
    case isFalse => cases h
  case isFalse h0 =>
    split at h
    case isTrue h2 => cases h; omega
    case isFalse => cases h
set_option maxHeartbeats 4000000 in
theorem z_sound (hS : z_St E) (l : Launch) : ∀ (n d y pc : Nat) (L : z_L) (S : List z_V) (h : z_H) (v : Option z_V) (h' : z_H), y < 234 → 1 ≤ d → z_run n d y pc L S h = some (v, h') →
    ∀ {p : Program} {e : Env} {R : Room} {s : State} {m : MethodId} {args : Array Value} {below : List Frame} {meth : Method} {c : Code} {H : Heap} {locs : List Loc} {cells slots : Nat} {ls : Array Slot} {Q : State → Prop},
    z_Cx E y p s m meth c → d ≤ R.frames → 40 * d ≤ R.locals → cells + (h'.1 - h.1) ≤ R.cells → slots + (h'.2.1 - h.2.1) ≤ R.slots → ls.size = z_ml y → z_lv E ls L → z_ok E h H → (∀ x ∈ locs, z_base E ≤ x.base) →
    z_Rt E y v h' p l e R s m args below meth c (cells + (h'.1 - h.1)) (slots + (h'.2.1 - h.2.1)) Q → W p l e R s m args below meth c H locs cells slots Q (F0 m pc ls (S.map (z_tv E))) := by
  intro n
  induction n with
  | zero => intro d y pc L S h v h' _ _ e; cases e
  | succ n ih =>
    intro d y pc L S h v h' hy hd1 er p e R s m args below meth c H locs cells slots ls Q C hdf hdl hc hs hsz hlv ok hlo hrt
    unfold z_run at er
    split at er
    case h_1 => cases er
    case h_2 q hq =>
      obtain ⟨⟨i, len⟩, hin, hdo⟩ := z_x_bind hq
      have hlv := z_lv_kl (y := y) (pc := pc) hlv
      generalize z_kl y pc L = L at hdo hlv
      have hm1 := z_am_do i q hdo
      have hm2 := z_mono _ _ _ _ _ _ _ _ _ er
      refine z_next hS hy C (z_dec hin) (z_ilOk hin) hdo hsz hlv ok hlo (by omega) (by omega) (by omega) (by omega) (fun H' locs' ls' g1 g2 g3 g4 => ?_)
      refine ih d y _ _ _ _ v h' hy hd1 er C hdf hdl (by omega) (by omega) g1 g2 g3 g4 ?_
      rw [show cells + (q.2.2.2.1 - h.1) + (h'.1 - q.2.2.2.1) = cells + (h'.1 - h.1) by omega, show slots + (q.2.2.2.2.1 - h.2.1) + (h'.2.1 - q.2.2.2.2.1) = slots + (h'.2.1 - h.2.1) by omega]
      exact hrt
    case h_3 q hq =>
      split at er
      case h_1 => cases er
      case h_2 d' hd =>
        split at er
        case isFalse => cases er
        case isTrue hsl =>
          split at er
          case h_1 => cases er
          case h_2 r hr =>
            obtain ⟨⟨i, len⟩, hin, hdo⟩ := z_x_bind hq
            have hlv := z_lv_kl (y := y) (pc := pc) hlv
            generalize z_kl y pc L = L at hdo hlv
            obtain ⟨hx, hb, hml, hown, hw, hlk, hnm, hrtt⟩ := id C
            obtain ⟨hd2, hd3⟩ := z_ndOk hd
            have hm1 := z_mono _ _ _ _ _ _ _ r.1 r.2 hr
            have hm2 := z_mono _ _ _ _ _ _ _ _ _ er
            have hlen3 : len = 3 := by
              have := z_ilOk hin
              rcases z_x_call hdo with ⟨k, g, rfl, -⟩ | ⟨k, g, _, _, rfl, -⟩ | ⟨k, g, _, _, rfl, -⟩ <;> simpa [z_il] using this
            subst hlen3
            have hdg := z_dec hin
            have hz : ∃ g : Nat × Nat, ∃ k, z_mtd y k = some g ∧ g.1 = q.1 ∧ q.1 < 999 := by
              rcases z_x_call hdo with ⟨k, g, -, a1, a2, a3, -⟩ | ⟨k, g, _, _, -, a1, a2, a3, -⟩ | ⟨k, g, _, _, -, a1, a2, a3, -⟩ <;> exact ⟨g, k, a1, a2, a3⟩
            have hq233 : q.1 < 233 := by
              obtain ⟨g, k, a1, a2, a3⟩ := hz
              obtain ⟨g1, -, -⟩ := z_tkey z_okMA a1
              rcases g1 with ⟨g1, -⟩ | ⟨g1, -⟩
              · exact absurd (show g.1 = 999 from g1) (by omega)
              · have : g.1 < 233 := g1
                omega
            -- the callee's contract
            have hM : Met l (z_nm q.1) (z_ws q.1) (z_rm d' (r.2.1 - h.1) (r.2.2.1 - h.2.1)) (z_Pc E q.2.1 h) (z_Qc E r.1 r.2) (r.2.1 - h.1) (r.2.2.1 - h.2.1) (fun q => z_base E ≤ q) := by
              refine z_ofW (cc := z_bc q.1) (maxL := z_ml q.1) (ret := z_rt q.1) (z_okYC q.1 hq233).1 rfl ?_
              intro p2 e2 s2 m2 args2 below2 meth2 c2 s12 B hml2 hv
              obtain ⟨rfl, ok2, hw2⟩ := hv
              obtain ⟨ls2, f1, f2, f3⟩ := z_entry hS hsl m2
              rw [f1]
              have hcls := (z_okYD q.1 (by omega)).1
              have hown2 : s2.vm.findClass (z_own (z_oi q.1)) = some m2.cls := by rw [← hcls]; exact findClass_of_methodNamed B.named
              have C2 : z_Cx E q.1 p2 s2 m2 meth2 c2 := ⟨B.exec, B.bytes, hml2, hown2, hw2, B.notSynchronized, fun hk2 => ((name_of_methodNamed B.named B.method).1).trans ((z_okYB q.1 hq233).2.2.2 hk2).2, B.returns⟩
              have := ih d' q.1 0 (z_ent q.1 q.2.1) [] h r.1 r.2 (by omega) hd2 hr (e := e2) (R := (headSpec (z_ws q.1) (z_rm d' (r.2.1 - h.1) (r.2.2.1 - h.2.1))).room) (args := (q.2.1.map (z_tv E)).toArray) (below := below2) (H := s2.heap) (locs := []) (cells := 0) (slots := 0) (ls := ls2) (Q := MQ below2 (z_Qc E r.1 r.2) (q.2.1.map (z_tv E)).toArray s2 (r.2.1 - h.1) (r.2.2.1 - h.2.1) (fun q => z_base E ≤ q)) C2 (Nat.le_refl _) (Nat.le_refl _) (by show 0 + _ ≤ r.2.1 - h.1; omega) (by show 0 + _ ≤ r.2.2.1 - h.2.1; omega) f2 f3 ok2 (fun x hx => by cases hx) (by rw [Nat.zero_add, Nat.zero_add]; exact z_ret hS (by omega) C2)
              exact this
            have hcc : cells + (r.2.1 - h.1) ≤ R.cells ∧ slots + (r.2.2.1 - h.2.1) ≤ R.slots := by omega
            have hml20 := (z_okYD q.1 (by omega)).2.2.2.1
            have hR : (z_rm d' (r.2.1 - h.1) (r.2.2.1 - h.2.1)).frames + 1 ≤ R.frames ∧ 8 + (z_ml q.1 + 11) + (z_rm d' (r.2.1 - h.1) (r.2.2.1 - h.2.1)).locals ≤ R.locals := by
              show d' + 1 ≤ R.frames ∧ 8 + (z_ml q.1 + 11) + 40 * d' ≤ R.locals
              omega
            have hts := z_htsw hS hw hq233 args
            have hini : (Cond.initialized (z_nm q.1).cls).before args s = true := z_word hS hw (z_okYB q.1 hq233).1 rfl args
            have hdsc := (z_okYC q.1 hq233).2
            have S0 : CallFix p m c (z_bc y) (z_ml y) s args (z_ws q.1) (z_own (z_oi y)) := ⟨hx, hb, hml, hown, hts⟩
            have fin : ∀ {aa : Array Value} {st0 : List Value} {rest : List z_V}, q.2.2.2.2 = rest → q.2.2.1 = pc + 3 → q.2.2.2.1 = L → va_Run p l e R s m args below meth c H locs cells slots (r.2.1 - h.1) (r.2.2.1 - h.2.1) (F0 m pc ls st0) (rest.map (z_tv E)) (z_Qc E r.1 r.2 aa) (fun q => z_base E ≤ q) → W p l e R s m args below meth c H locs cells slots Q (F0 m pc ls st0) := by
              intro aa st0 rest e1 e2 e3 hrun
              refine z_after hrun hlo (fun H1 locs1 ok1 hlo1 => ?_)
              rw [e1, e2, e3] at er
              have := ih d y (pc + 3) L (r.1.toList ++ rest) r.2 v h' hy hd1 er C (e := e) (R := R) (args := args) (below := below) (H := H1) (locs := locs1) (cells := cells + (r.2.1 - h.1)) (slots := slots + (r.2.2.1 - h.2.1)) (ls := ls) (Q := Q) hdf hdl (by omega) (by omega) hsz hlv ok1 hlo1 (by
                rw [show cells + (r.2.1 - h.1) + (h'.1 - r.2.1) = cells + (h'.1 - h.1) by omega, show slots + (r.2.2.1 - h.2.1) + (h'.2.1 - r.2.2.1) = slots + (h'.2.1 - h.2.1) by omega]
                exact hrt)
              rw [List.map_append] at this
              rw [show (r.1.map (z_tv E)).toList = r.1.toList.map (z_tv E) by cases r.1 <;> rfl]
              exact this
            rcases z_x_call hdo with ⟨k, g, rfl, a1, a2, a3, a4, a5, a6, a7, a8, a9⟩ | ⟨k, g, rr, as, rfl, a1, a2, a3, a4, aq, ao, a5, a6, a7, a8, a9⟩ | ⟨k, g, rr, as, rfl, a1, a2, a3, a4, aq, ao, a5, a6, a7, a8, a9⟩
            · -- static
              obtain ⟨g1, g2, g3⟩ := z_tkey z_okMA a1
              simp only [g2, g3] at g1
              have g1 := g1.resolve_left (fun q => absurd q.1 (by omega))
              have hst : (Cond.static (z_nm q.1)).before args s = true := z_word hS hw ((z_okYB q.1 hq233).2.1 a4) rfl args
              have hPS : PreS s H (z_Pc E q.2.1 h) (q.2.1.map (z_tv E)) := ⟨z_Pc_blind, fun U hU hWU => ⟨rfl, by rw [hU]; exact ok, hw.trans hWU⟩⟩
              have hstk : S.map (z_tv E) = (q.2.1.map (z_tv E)).reverse ++ q.2.2.2.2.map (z_tv E) := by rw [a6, List.map_append, List.map_reverse]
              have hnl : (q.2.1.map (z_tv E)).length = z_np q.1 := by rw [List.length_map]; exact a5
              refine fin (aa := (q.2.1.map (z_tv E)).toArray) (st0 := S.map (z_tv E)) rfl a8 a9 ?_
              rcases g1.2 with ⟨-, hlk2⟩ | ⟨-, hlk2⟩
              · rw [a2] at hlk2
                exact va_runS (As := q.2.1.map (z_tv E)) (rest := q.2.2.2.2.map (z_tv E)) S0 hM ⟨callB_of (z_np q.1) hts (z_goodws q.1) rfl rfl rfl hini (z_word hS hw hlk2 rfl args) hdsc hR, hst⟩ hPS rfl hnl hsz hstk (lv_room (by rw [z_cats_tv hS]; exact a7)) hdg hcc
              · rw [a2] at hlk2
                have hnw : va_Nw (.methodLinkNest (z_own (z_oi y)) k (z_nm q.1) "StuntSet") s := va_Nw.warmM hw (va_Nw.of rfl (hS.1 _ hlk2))
                exact va_runSN (As := q.2.1.map (z_tv E)) (rest := q.2.2.2.2.map (z_tv E)) S0 hM ⟨va_cnB (z_np q.1) hts (z_goodws q.1) rfl rfl rfl hnw hini hdsc hR, hst, trivial⟩ hPS rfl hnl hsz hstk (lv_room (by rw [z_cats_tv hS]; exact a7)) hdg hcc
            · -- of a thing
              obtain ⟨g1, g2, g3⟩ := z_tkey z_okMA a1
              simp only [g2, g3] at g1
              have g1 := g1.resolve_left (fun q => absurd q.1 (by omega))
              obtain ⟨w1, w2⟩ := (z_okYB q.1 hq233).2.2.1 a4
              have hcls := (z_okYD q.1 (by omega)).1
              obtain ⟨a, rfl, ha5, hrecv⟩ := z_recv hS ok hw ao
              rw [← hcls] at hrecv
              have hPV : PreV s H (z_nm q.1).cls (z_B E a) (z_Pc E q.2.1 h) (as.map (z_tv E)) := ⟨z_Pc_blind, hrecv, fun U hU hWU => ⟨by rw [aq, List.map_cons, show z_tv E (.inr (.inr (some a))) = .ref (z_B E a) from z_rv_ne ha5], by rw [hU]; exact ok, hw.trans hWU⟩⟩
              have hstk : S.map (z_tv E) = (as.map (z_tv E)).reverse ++ .ref (z_B E a) :: q.2.2.2.2.map (z_tv E) := by rw [a6, List.map_append, List.map_reverse, List.map_cons, show z_tv E (.inr (.inr (some a))) = .ref (z_B E a) from z_rv_ne ha5]
              have hnl : (as.map (z_tv E)).length = z_np q.1 := by rw [List.length_map]; exact a5
              refine fin (aa := (Value.ref (z_B E a) :: as.map (z_tv E)).toArray) (st0 := S.map (z_tv E)) rfl a8 a9 ?_
              rcases g1.2 with ⟨-, hlk2⟩ | ⟨-, hlk2⟩
              · rw [a2] at hlk2
                exact va_runV (As := as.map (z_tv E)) (rest := q.2.2.2.2.map (z_tv E)) S0 hM ⟨callB_of (z_np q.1) hts (z_goodws q.1) rfl rfl rfl hini (z_word hS hw hlk2 rfl args) hdsc hR, z_word hS hw w1 rfl args, z_word hS hw w2 rfl args⟩ hPV rfl hnl hsz hstk (lv_room (by rw [z_cats_tv hS]; exact a7)) hdg hcc
              · rw [a2] at hlk2
                have hnw : va_Nw (.methodLinkNest (z_own (z_oi y)) k (z_nm q.1) "StuntSet") s := va_Nw.warmM hw (va_Nw.of rfl (hS.1 _ hlk2))
                exact va_runVN (As := as.map (z_tv E)) (rest := q.2.2.2.2.map (z_tv E)) S0 hM ⟨va_cnB (z_np q.1) hts (z_goodws q.1) rfl rfl rfl hnw hini hdsc hR, z_word hS hw w1 rfl args, z_word hS hw w2 rfl args⟩ hPV rfl hnl hsz hstk (lv_room (by rw [z_cats_tv hS]; exact a7)) hdg hcc
            · -- a constructor
              obtain ⟨g1, g2, g3⟩ := z_tkey z_okMA a1
              simp only [g2, g3] at g1
              have g1 := g1.resolve_left (fun q => absurd q.1 (by omega))
              obtain ⟨w1, w2⟩ := (z_okYB q.1 hq233).2.2.2 a4
              have hrn := (z_okYD q.1 (by omega)).2.2.1 a4
              obtain ⟨a, rfl, ha5⟩ : ∃ a, rr = some a ∧ a ≠ 5 := by
                rcases z_x_nul ao with ⟨-, q⟩ | ⟨a, h1, h2, -⟩
                · cases q
                · exact ⟨a, h1, h2⟩
              have hPS : PreS s H (z_Pc E q.2.1 h) (.ref (z_B E a) :: as.map (z_tv E)) := ⟨z_Pc_blind, fun U hU hWU => ⟨by rw [aq, List.map_cons, show z_tv E (.inr (.inr (some a))) = .ref (z_B E a) from z_rv_ne ha5], by rw [hU]; exact ok, hw.trans hWU⟩⟩
              have hstk : S.map (z_tv E) = (as.map (z_tv E)).reverse ++ .ref (z_B E a) :: q.2.2.2.2.map (z_tv E) := by rw [a6, List.map_append, List.map_reverse, List.map_cons, show z_tv E (.inr (.inr (some a))) = .ref (z_B E a) from z_rv_ne ha5]
              have hnl : (as.map (z_tv E)).length = z_np q.1 := by rw [List.length_map]; exact a5
              have hwsn : z_ws q.1 = Cond.code (z_nm q.1) (z_bc q.1) (z_ml q.1) none :: [] := by unfold z_ws; rw [hrn]
              refine fin (aa := (Value.ref (z_B E a) :: as.map (z_tv E)).toArray) (st0 := S.map (z_tv E)) rfl a8 a9 ?_
              rcases g1.2 with ⟨-, hlk2⟩ | ⟨-, hlk2⟩
              · rw [a2] at hlk2
                exact va_runI (As := as.map (z_tv E)) (rest := q.2.2.2.2.map (z_tv E)) S0 hM ⟨callB_of (z_np q.1) hts (z_goodws q.1) hwsn rfl rfl hini (z_word hS hw hlk2 rfl args) hdsc hR, w2, z_word hS hw w1 rfl args⟩ hPS rfl hnl hsz hstk (lv_room (by rw [z_cats_tv hS]; exact a7)) hdg hcc
              · rw [a2] at hlk2
                have hnw : va_Nw (.methodLinkNest (z_own (z_oi y)) k (z_nm q.1) "StuntSet") s := va_Nw.warmM hw (va_Nw.of rfl (hS.1 _ hlk2))
                exact va_runIN (As := as.map (z_tv E)) (rest := q.2.2.2.2.map (z_tv E)) S0 hM ⟨va_cnB (z_np q.1) hts (z_goodws q.1) hwsn rfl rfl hnw hini hdsc hR, w2, z_word hS hw w1 rfl args⟩ hPS rfl hnl hsz hstk (lv_room (by rw [z_cats_tv hS]; exact a7)) hdg hcc
    case h_4 v0 hq =>
      cases er
      obtain ⟨⟨i, len⟩, hin, hdo⟩ := z_x_bind hq
      obtain ⟨hro, rfl⟩ := z_x_ret hdo
      have hlen1 : len = 1 := by
        have := z_ilOk hin
        rcases hro with ⟨rfl, -⟩ | ⟨rfl, -⟩ | ⟨rfl, -⟩ <;> simpa [z_il] using this
      subst hlen1
      have := hrt H locs ls pc i (z_dec hin) hro ok hlo
      simpa using this
end ZT
