/-! one step of the small machine is one of the machine -/
section ZX
variable {pc : Nat} {L : z_L} {S : List z_V} {h : z_H} {q : Nat × z_L × List z_V × z_H}
theorem z_x_go (hq : z_go pc L S h = some (.inl q)) : q = (pc, L, S, h) := by unfold z_go at hq; exact (Sum.inl.inj (Option.some.inj hq)).symm
theorem z_x_jmp {off : Int} (hq : z_jmp pc off L S h = some (.inl q)) : ∃ tgt : Nat, (pc : Int) + off = (tgt : Int) ∧ q = (tgt, L, S, h) := by
  unfold z_jmp at hq
  split at hq
  case isTrue hp => exact ⟨_, (Int.toNat_of_nonneg hp).symm, z_x_go hq⟩
  case isFalse => cases hq
theorem z_x_br {off : Int} {b : Bool} (hq : z_br pc off b L S h = some (.inl q)) : ∃ tgt : Nat, (pc : Int) + off = (tgt : Int) ∧ ((b = true ∧ q = (tgt, L, S, h)) ∨ (b = false ∧ q = (pc + 3, L, S, h))) := by
  unfold z_br at hq
  split at hq
  case isTrue hp =>
    refine ⟨_, (Int.toNat_of_nonneg hp).symm, ?_⟩
    split at hq
    case isTrue hb => exact Or.inl ⟨hb, z_x_go hq⟩
    case isFalse hb => exact Or.inr ⟨by simpa using hb, z_x_go hq⟩
  case isFalse => cases hq
theorem z_x_nul {r : Option Nat} {b : Bool} (hq : z_nul r = some b) : (r = none ∧ b = true) ∨ ∃ a, r = some a ∧ a ≠ 5 ∧ b = false := by
  unfold z_nul at hq
  split at hq
  case h_1 => cases hq; exact Or.inl ⟨rfl, rfl⟩
  case h_2 a =>
    split at hq
    case isTrue => cases hq
    case isFalse ha => cases hq; exact Or.inr ⟨a, rfl, ha, rfl⟩
theorem z_rvk {E : z_Env} (hS : z_St E) (r : Option Nat) : z_rv E r = .null ∨ ∃ t, z_rv E r = .ref t := by
  obtain ⟨-, -, -, -, -, -, -, -, -, -, -, -, -, -, -, hp⟩ := hS
  cases r with
  | none => exact Or.inl rfl
  | some a =>
    unfold z_rv
    by_cases ha : a = 5
    · simp only [if_pos ha]; exact hp
    · simp only [if_neg ha]; exact Or.inr ⟨_, rfl⟩
theorem z_ty3A : ∀ q ∈ z_fldT, q.2.2.2.1 < 3 := by decide +kernel
theorem z_ty3 {y idx ci k ty : Nat} {fin : Bool} (hf : z_fld y idx = some (ci, k, ty, fin)) : ty < 3 := (z_tkey z_ty3A hf).1
theorem z_x_bin {f : Int32 → Int32 → Int32} (hq : z_bin pc L S h f = some (.inl q)) : ∃ (a b : Int32) (S' : List z_V), S = .inl b :: .inl a :: S' ∧ q = (pc + 1, L, .inl (f a b) :: S', h) := by
  unfold z_bin at hq
  split at hq
  case h_1 b a S' => exact ⟨a, b, S', rfl, z_x_go hq⟩
  case h_2 => cases hq
theorem z_x_div {f : Int32 → Int32 → Int32} (hq : z_div pc L S h f = some (.inl q)) : ∃ (a b : Int32) (S' : List z_V), ¬ b = 0 ∧ S = .inl b :: .inl a :: S' ∧ q = (pc + 1, L, .inl (f a b) :: S', h) := by
  unfold z_div at hq
  split at hq
  case h_1 b a S' =>
    split at hq
    case isTrue => cases hq
    case isFalse hb => exact ⟨a, b, S', hb, rfl, z_x_go hq⟩
  case h_2 => cases hq
theorem z_x_una {f : Int32 → z_V} (hq : z_una pc L S h f = some (.inl q)) : ∃ (a : Int32) (S' : List z_V), S = .inl a :: S' ∧ q = (pc + 1, L, f a :: S', h) := by
  unfold z_una at hq
  split at hq
  case h_1 a S' => exact ⟨a, S', rfl, z_x_go hq⟩
  case h_2 => cases hq
theorem z_x_shl {f : Int64 → Int32 → Int64} (hq : z_shl64 pc L S h f = some (.inl q)) : ∃ (a : Int64) (b : Int32) (S' : List z_V), S = .inl b :: .inr (.inl a) :: S' ∧ q = (pc + 1, L, .inr (.inl (f a b)) :: S', h) := by
  unfold z_shl64 at hq
  split at hq
  case h_1 b a S' => exact ⟨a, b, S', rfl, z_x_go hq⟩
  case h_2 => cases hq
theorem z_x_b64 {f : Int64 → Int64 → Int64} (hq : z_bin64 pc L S h f = some (.inl q)) : ∃ (a b : Int64) (S' : List z_V), S = .inr (.inl b) :: .inr (.inl a) :: S' ∧ q = (pc + 1, L, .inr (.inl (f a b)) :: S', h) := by
  unfold z_bin64 at hq
  split at hq
  case h_1 b a S' => exact ⟨a, b, S', rfl, z_x_go hq⟩
  case h_2 => cases hq
theorem z_x_bind {α : Type} {o : Option α} {f : α → Option z_A} {x : z_A} (hq : o.bind f = some x) : ∃ v, o = some v ∧ f v = some x := by
  cases o with
  | none => cases hq
  | some v => exact ⟨v, rfl, hq⟩
theorem z_x_stl {i : Nat} {r : Bool} (hq : z_stl pc i L S h r = some (.inl q)) : ∃ (v : z_V) (L' : z_L) (S' : List z_V), S = v :: S' ∧ z_set L i v = some L' ∧ q = (pc, L', S', h) ∧ ((r = false ∧ ∃ x, v = .inl x) ∨ (r = true ∧ ∃ x, v = .inr (.inr x))) := by
  unfold z_stl at hq
  split at hq
  case h_1 x S' =>
    split at hq
    case isTrue => cases hq
    case isFalse hr =>
      obtain ⟨L', h1, h2⟩ := z_x_bind hq
      exact ⟨_, L', S', rfl, h1, z_x_go h2, Or.inl ⟨by simpa using hr, x, rfl⟩⟩
  case h_2 x S' =>
    split at hq
    case isTrue hr =>
      obtain ⟨L', h1, h2⟩ := z_x_bind hq
      exact ⟨_, L', S', rfl, h1, z_x_go h2, Or.inr ⟨hr, x, rfl⟩⟩
    case isFalse => cases hq
  case h_3 => cases hq
theorem z_x_lI {i : Nat} {x : Int32} (hq : z_lI L i = some x) : L[i]? = some (some (.inl x)) := by
  unfold z_lI at hq
  split at hq
  case h_1 y hy => cases hq; exact hy
  case h_2 => cases hq
theorem z_x_lR {i : Nat} {x : Option Nat} (hq : z_lR L i = some x) : L[i]? = some (some (.inr (.inr x))) := by
  unfold z_lR at hq
  split at hq
  case h_1 y hy => cases hq; exact hy
  case h_2 => cases hq
theorem z_x_lJ {i : Nat} {x : Int64} (hq : z_lJ L i = some x) : L[i]? = some (some (.inr (.inl x))) := by
  unfold z_lJ at hq
  split at hq
  case h_1 y hy => cases hq; exact hy
  case h_2 => cases hq
theorem z_x_gI {r : Option Nat} {ci k : Nat} {x : Int32} (hq : z_gI h r ci k = some x) : ∃ (a : Nat) (fs : List z_V), r = some a ∧ h.2.2 a = .inr (.inr (ci, fs)) ∧ fs[k]? = some (.inl x) := by
  unfold z_gI at hq
  split at hq
  case h_1 => cases hq
  case h_2 a =>
    split at hq
    case h_2 => cases hq
    case h_1 c fs ha =>
      split at hq
      case isFalse => cases hq
      case isTrue hc =>
        split at hq
        case h_2 => cases hq
        case h_1 y hy => cases hq; subst hc; exact ⟨a, fs, rfl, ha, hy⟩
theorem z_x_gR {r : Option Nat} {ci k : Nat} {x : Option Nat} (hq : z_gR h r ci k = some x) : ∃ (a : Nat) (fs : List z_V), r = some a ∧ h.2.2 a = .inr (.inr (ci, fs)) ∧ fs[k]? = some (.inr (.inr x)) := by
  unfold z_gR at hq
  split at hq
  case h_1 => cases hq
  case h_2 a =>
    split at hq
    case h_2 => cases hq
    case h_1 c fs ha =>
      split at hq
      case isFalse => cases hq
      case isTrue hc =>
        split at hq
        case h_2 => cases hq
        case h_1 y hy => cases hq; subst hc; exact ⟨a, fs, rfl, ha, hy⟩
theorem z_x_pI {ty : Nat} {r : Option Nat} {ci k : Nat} {x : Int32} {h' : z_H} (hq : z_pI ty h r ci k x = some h') : ∃ (a : Nat) (fs : List z_V), r = some a ∧ h.2.2 a = .inr (.inr (ci, fs)) ∧ k < fs.length ∧ (ty = 0 ∨ x = 0 ∨ x = 1) ∧ h' = z_put h a (.inr (.inr (ci, fs.set k (.inl x)))) := by
  unfold z_pI at hq
  split at hq
  case h_1 => cases hq
  case h_2 a =>
    split at hq
    case h_2 => cases hq
    case h_1 c fs ha =>
      split at hq
      case isFalse => cases hq
      case isTrue hc =>
        obtain ⟨rfl, h1, h2⟩ := hc
        cases hq
        exact ⟨a, fs, rfl, ha, h1, h2, rfl⟩
theorem z_x_pR {r : Option Nat} {ci k : Nat} {x : Option Nat} {h' : z_H} (hq : z_pR h r ci k x = some h') : ∃ (a : Nat) (fs : List z_V), r = some a ∧ h.2.2 a = .inr (.inr (ci, fs)) ∧ k < fs.length ∧ h' = z_put h a (.inr (.inr (ci, fs.set k (.inr (.inr x))))) := by
  unfold z_pR at hq
  split at hq
  case h_1 => cases hq
  case h_2 a =>
    split at hq
    case h_2 => cases hq
    case h_1 c fs ha =>
      split at hq
      case isFalse => cases hq
      case isTrue hc =>
        obtain ⟨rfl, h1⟩ := hc
        cases hq
        exact ⟨a, fs, rfl, ha, h1, rfl⟩
end ZX
section ZN
variable {p : Program} {l : Launch} {e : Env} {R : Room} {s : State} {m : MethodId} {args : Array Value} {below : List Frame} {meth : Method} {c : Code} {H : Heap} {locs : List Loc} {cells slots : Nat} {Q : State → Prop}
variable {E : z_Env} {y pc : Nat} {L : z_L} {S : List z_V} {h : z_H} {ls : Array Slot}
/-- what comes next may be taken as done -/
def z_Go (E : z_Env) (p : Program) (l : Launch) (e : Env) (R : Room) (s : State) (m : MethodId) (args : Array Value) (below : List Frame) (meth : Method) (c : Code) (cells slots : Nat) (Q : State → Prop) (n0 : Nat) (h : z_H) (q : Nat × z_L × List z_V × z_H) : Prop :=
  ∀ (H' : Heap) (locs' : List Loc) (ls' : Array Slot), ls'.size = n0 → z_lv E ls' q.2.1 → z_ok E q.2.2.2 H' → (∀ x ∈ locs', z_base E ≤ x.base) → W p l e R s m args below meth c H' locs' (cells + (q.2.2.2.1 - h.1)) (slots + (q.2.2.2.2.1 - h.2.1)) Q (F0 m q.1 ls' (q.2.2.1.map (z_tv E)))
theorem z_Go.pure {n0 pc' : Nat} {L' : z_L} {S' : List z_V} (k : z_Go E p l e R s m args below meth c cells slots Q n0 h (pc', L', S', h)) {ls' : Array Slot} (h1 : ls'.size = n0) (h2 : z_lv E ls' L') (ok : z_ok E h H) (hlo : ∀ x ∈ locs, z_base E ≤ x.base) : W p l e R s m args below meth c H locs cells slots Q (F0 m pc' ls' (S'.map (z_tv E))) := by
  have := k H locs ls' h1 h2 ok hlo
  simp only [Nat.sub_self, Nat.add_zero] at this
  exact this
theorem z_loapp {x : Loc} (hlo : ∀ x ∈ locs, z_base E ≤ x.base) (hx : z_base E ≤ x.base) : ∀ q ∈ locs ++ [x], z_base E ≤ q.base := fun q hq => by
  rcases List.mem_append.mp hq with h | h
  · exact hlo q h
  · rw [List.mem_singleton.mp h]; exact hx
set_option maxHeartbeats 4000000 in
set_option maxRecDepth 100000 in
theorem z_next (hS : z_St E) (hy : y < 234) (C : z_Cx E y p s m meth c) {i : Instr} {len : Nat} (hdg : decode (z_bc y) pc = .ok (i, len)) (hil : z_il i len = true) {q : Nat × z_L × List z_V × z_H} (hact : z_do y pc i L S h = some (.inl q)) (hsz : ls.size = z_ml y) (hlv : z_lv E ls L) (ok : z_ok E h H) (hlo : ∀ x ∈ locs, z_base E ≤ x.base) (hfr : 1 ≤ R.frames) (hlc : 40 ≤ R.locals) (hc : cells + (q.2.2.2.1 - h.1) ≤ R.cells) (hs : slots + (q.2.2.2.2.1 - h.2.1) ≤ R.slots)
    (k : z_Go E p l e R s m args below meth c cells slots Q (z_ml y) h q) : W p l e R s m args below meth c H locs cells slots Q (F0 m pc ls (S.map (z_tv E))) := by
  obtain ⟨hx, hb, hml, hown, hw, hlk, hnm, hrt⟩ := id C
  cases i with
  | iconst n =>
    have : len = 1 := by simpa [z_il] using hil
    subst this
    have := z_x_go hact; subst this
    exact lv_iconst hx hb hdg rfl (k.pure hsz hlv ok hlo)
  | bipush n =>
    have : len = 2 := by simpa [z_il] using hil
    subst this
    have := z_x_go hact; subst this
    exact lv_bipush hx hb hdg rfl (k.pure hsz hlv ok hlo)
  | sipush n =>
    have : len = 3 := by simpa [z_il] using hil
    subst this
    have := z_x_go hact; subst this
    exact lv_sipush hx hb hdg rfl (k.pure hsz hlv ok hlo)
  | ldc n =>
    have : len = 2 := by simpa [z_il] using hil
    subst this
    simp only [z_do] at hact
    split at hact
    case isTrue hst =>
      have := z_x_go hact; subst this
      unfold z_str at hst
      rw [Bool.and_eq_true, decide_eq_true_iff, List.contains_iff_mem] at hst
      obtain ⟨g1, g2⟩ := z_okKS _ hst.2
      have e1 : (z_oi y * 2000 + n) / 2000 = z_oi y := by omega
      have e2 : (z_oi y * 2000 + n) % 2000 = n := by omega
      rw [e1] at g1; rw [e2] at g2; subst g2
      obtain ⟨-, -, -, -, -, -, -, -, -, -, -, -, -, -, hk, -⟩ := id hS
      rw [g1] at hown
      exact va_ldcS hx hb hown (vk_R.warm hw hk) hdg (k.pure hsz hlv ok hlo)
    case isFalse =>
      obtain ⟨v, h1, h2⟩ := z_x_bind hact
      have := z_x_go h2; subst this
      obtain ⟨g1, g2, g3⟩ := z_tkey z_okK h1
      simp only [g2, g3] at g1
      exact lv_ldc hx hb hown (z_word hS hw g1 rfl args) hdg (k.pure hsz hlv ok hlo)
  | ldc_w n =>
    have : len = 3 := by simpa [z_il] using hil
    subst this
    obtain ⟨v, h1, h2⟩ := z_x_bind hact
    have := z_x_go h2; subst this
    obtain ⟨g1, g2, g3⟩ := z_tkey z_okK h1
    simp only [g2, g3] at g1
    exact lv_ldcw hx hb hown (z_word hS hw g1 rfl args) hdg (k.pure hsz hlv ok hlo)
  | ldc2_w n =>
    have : len = 3 := by simpa [z_il] using hil
    subst this
    obtain ⟨v, h1, h2⟩ := z_x_bind hact
    have := z_x_go h2; subst this
    obtain ⟨g1, g2, g3⟩ := z_tkey z_okKL h1
    simp only [g2, g3] at g1
    exact lv_ldc2 hx hb hown (z_word hS hw g1 rfl args) hdg (k.pure hsz hlv ok hlo)
  | aconst_null =>
    have : len = 1 := by simpa [z_il] using hil
    subst this
    have := z_x_go hact; subst this
    exact lv_null hx hb hdg (k.pure hsz hlv ok hlo)
  | iload n =>
    have : len = 2 := by simpa [z_il] using hil
    subst this
    obtain ⟨v, h1, h2⟩ := z_x_bind hact
    have := z_x_go h2; subst this
    exact lv_iload hx hb hdg (hlv.2.2 _ _ (z_x_lI h1)) (k.pure hsz hlv ok hlo)
  | iload_n n =>
    have : len = 1 := by simpa [z_il] using hil
    subst this
    obtain ⟨v, h1, h2⟩ := z_x_bind hact
    have := z_x_go h2; subst this
    exact lv_iload_n hx hb hdg rfl (hlv.2.2 _ _ (z_x_lI h1)) (k.pure hsz hlv ok hlo)
  | lload_n n =>
    have : len = 1 := by simpa [z_il] using hil
    subst this
    obtain ⟨v, h1, h2⟩ := z_x_bind hact
    have := z_x_go h2; subst this
    exact lv_lload_n hx hb hdg rfl (hlv.2.2 _ _ (z_x_lJ h1)) (k.pure hsz hlv ok hlo)
  | aload n =>
    have : len = 2 := by simpa [z_il] using hil
    subst this
    obtain ⟨v, h1, h2⟩ := z_x_bind hact
    have := z_x_go h2; subst this
    have hl := hlv.2.2 _ _ (z_x_lR h1)
    have kk := k.pure hsz hlv ok hlo
    rcases z_rvk hS v with e | ⟨t, e⟩
    · rw [show z_tv E (.inr (.inr v)) = .null from e] at hl
      rw [List.map_cons, show z_tv E (.inr (.inr v)) = .null from e] at kk
      exact lv_aloadN hx hb hdg hl kk
    · rw [show z_tv E (.inr (.inr v)) = .ref t from e] at hl
      rw [List.map_cons, show z_tv E (.inr (.inr v)) = .ref t from e] at kk
      exact lv_aload hx hb hdg hl kk
  | aload_n n =>
    have : len = 1 := by simpa [z_il] using hil
    subst this
    obtain ⟨v, h1, h2⟩ := z_x_bind hact
    have := z_x_go h2; subst this
    have hl := hlv.2.2 _ _ (z_x_lR h1)
    have kk := k.pure hsz hlv ok hlo
    rcases z_rvk hS v with e | ⟨t, e⟩
    · rw [show z_tv E (.inr (.inr v)) = .null from e] at hl
      rw [List.map_cons, show z_tv E (.inr (.inr v)) = .null from e] at kk
      exact lv_aload_nN hx hb hdg rfl hl kk
    · rw [show z_tv E (.inr (.inr v)) = .ref t from e] at hl
      rw [List.map_cons, show z_tv E (.inr (.inr v)) = .ref t from e] at kk
      exact lv_aload_n hx hb hdg rfl hl kk
  | istore n =>
    have : len = 2 := by simpa [z_il] using hil
    subst this
    obtain ⟨v, L', S', rfl, h1, rfl, h2⟩ := z_x_stl hact
    obtain ⟨g1, g2, g3⟩ := z_sto hS h1
    rcases h2 with ⟨-, x, rfl⟩ | ⟨h2, -⟩
    · exact lv_istore hx hb hdg (z_ll_has hlv) g1 rfl (fun ls' hl' => k.pure (by rw [hl'.1, ← hlv.1]; exact hsz) (g3 ls' hl') ok hlo)
    · cases h2
  | istore_n n =>
    have : len = 1 := by simpa [z_il] using hil
    subst this
    obtain ⟨v, L', S', rfl, h1, rfl, h2⟩ := z_x_stl hact
    obtain ⟨g1, g2, g3⟩ := z_sto hS h1
    rcases h2 with ⟨-, x, rfl⟩ | ⟨h2, -⟩
    · exact lv_istore_n hx hb hdg rfl (z_ll_has hlv) g1 rfl (fun ls' hl' => k.pure (by rw [hl'.1, ← hlv.1]; exact hsz) (g3 ls' hl') ok hlo)
    · cases h2
  | astore n =>
    have : len = 2 := by simpa [z_il] using hil
    subst this
    obtain ⟨v, L', S', rfl, h1, rfl, h2⟩ := z_x_stl hact
    obtain ⟨g1, g2, g3⟩ := z_sto hS h1
    rcases h2 with ⟨h2, -⟩ | ⟨-, x, rfl⟩
    · cases h2
    · rw [List.map_cons]
      rcases z_rvk hS x with e | ⟨t, e⟩
      · rw [show z_tv E (.inr (.inr x)) = .null from e] at g3 ⊢
        exact lv_astoreN hx hb hdg (z_ll_has hlv) g1 rfl (fun ls' hl' => k.pure (by rw [hl'.1, ← hlv.1]; exact hsz) (g3 ls' hl') ok hlo)
      · rw [show z_tv E (.inr (.inr x)) = .ref t from e] at g3 ⊢
        exact lv_astore hx hb hdg (z_ll_has hlv) g1 rfl (fun ls' hl' => k.pure (by rw [hl'.1, ← hlv.1]; exact hsz) (g3 ls' hl') ok hlo)
  | astore_n n =>
    have : len = 1 := by simpa [z_il] using hil
    subst this
    obtain ⟨v, L', S', rfl, h1, rfl, h2⟩ := z_x_stl hact
    obtain ⟨g1, g2, g3⟩ := z_sto hS h1
    rcases h2 with ⟨h2, -⟩ | ⟨-, x, rfl⟩
    · cases h2
    · rw [List.map_cons]
      rcases z_rvk hS x with e | ⟨t, e⟩
      · rw [show z_tv E (.inr (.inr x)) = .null from e] at g3 ⊢
        exact lv_astore_nN hx hb hdg rfl (z_ll_has hlv) g1 rfl (fun ls' hl' => k.pure (by rw [hl'.1, ← hlv.1]; exact hsz) (g3 ls' hl') ok hlo)
      · rw [show z_tv E (.inr (.inr x)) = .ref t from e] at g3 ⊢
        exact lv_astore_n hx hb hdg rfl (z_ll_has hlv) g1 rfl (fun ls' hl' => k.pure (by rw [hl'.1, ← hlv.1]; exact hsz) (g3 ls' hl') ok hlo)
  | iinc n d =>
    have : len = 3 := by simpa [z_il] using hil
    subst this
    obtain ⟨v, h1, h2⟩ := z_x_bind hact
    obtain ⟨L', h4, h3⟩ := z_x_bind h2
    have := z_x_go h3; subst this
    obtain ⟨g1, g2, g3⟩ := z_sto hS h4
    obtain ⟨kk, hkk⟩ := List.getElem?_of_mem (z_ll_mem (E := E) (z_x_lI h1))
    exact lv_iinc hx hb hdg (z_ll_has hlv) hkk rfl g1 rfl (fun ls' hl' => k.pure (by rw [hl'.1, ← hlv.1]; exact hsz) (g3 ls' hl') ok hlo)
  | iadd => have : len = 1 := by simpa [z_il] using hil
            subst this; obtain ⟨a, b, S', rfl, rfl⟩ := z_x_bin hact; exact lv_iadd hx hb hdg (k.pure hsz hlv ok hlo)
  | isub => have : len = 1 := by simpa [z_il] using hil
            subst this; obtain ⟨a, b, S', rfl, rfl⟩ := z_x_bin hact; exact lv_isub hx hb hdg (k.pure hsz hlv ok hlo)
  | imul => have : len = 1 := by simpa [z_il] using hil
            subst this; obtain ⟨a, b, S', rfl, rfl⟩ := z_x_bin hact; exact lv_imul hx hb hdg (k.pure hsz hlv ok hlo)
  | iand => have : len = 1 := by simpa [z_il] using hil
            subst this; obtain ⟨a, b, S', rfl, rfl⟩ := z_x_bin hact; exact lv_iand hx hb hdg (k.pure hsz hlv ok hlo)
  | ior => have : len = 1 := by simpa [z_il] using hil
           subst this; obtain ⟨a, b, S', rfl, rfl⟩ := z_x_bin hact; exact lv_ior hx hb hdg (k.pure hsz hlv ok hlo)
  | ixor => have : len = 1 := by simpa [z_il] using hil
            subst this; obtain ⟨a, b, S', rfl, rfl⟩ := z_x_bin hact; exact lv_ixor hx hb hdg (k.pure hsz hlv ok hlo)
  | ishl => have : len = 1 := by simpa [z_il] using hil
            subst this; obtain ⟨a, b, S', rfl, rfl⟩ := z_x_bin hact; exact lv_ishl hx hb hdg (k.pure hsz hlv ok hlo)
  | ishr => have : len = 1 := by simpa [z_il] using hil
            subst this; obtain ⟨a, b, S', rfl, rfl⟩ := z_x_bin hact; exact lv_ishr hx hb hdg (k.pure hsz hlv ok hlo)
  | iushr => have : len = 1 := by simpa [z_il] using hil
             subst this; obtain ⟨a, b, S', rfl, rfl⟩ := z_x_bin hact; exact lv_iushr hx hb hdg rfl (k.pure hsz hlv ok hlo)
  | idiv => have : len = 1 := by simpa [z_il] using hil
            subst this; obtain ⟨a, b, S', hne, rfl, rfl⟩ := z_x_div hact; exact lv_idiv hx hb hdg hne (k.pure hsz hlv ok hlo)
  | irem => have : len = 1 := by simpa [z_il] using hil
            subst this; obtain ⟨a, b, S', hne, rfl, rfl⟩ := z_x_div hact; exact lv_irem hx hb hdg hne (k.pure hsz hlv ok hlo)
  | ineg => have : len = 1 := by simpa [z_il] using hil
            subst this; obtain ⟨a, S', rfl, rfl⟩ := z_x_una hact; exact lv_ineg hx hb hdg (k.pure hsz hlv ok hlo)
  | i2l => have : len = 1 := by simpa [z_il] using hil
           subst this; obtain ⟨a, S', rfl, rfl⟩ := z_x_una hact; exact lv_i2l hx hb hdg rfl (k.pure hsz hlv ok hlo)
  | i2b => have : len = 1 := by simpa [z_il] using hil
           subst this; obtain ⟨a, S', rfl, rfl⟩ := z_x_una hact; exact lv_i2b hx hb hdg rfl (k.pure hsz hlv ok hlo)
  | i2c => have : len = 1 := by simpa [z_il] using hil
           subst this; obtain ⟨a, S', rfl, rfl⟩ := z_x_una hact; exact lv_i2c hx hb hdg rfl (k.pure hsz hlv ok hlo)
  | l2i =>
    have : len = 1 := by simpa [z_il] using hil
    subst this
    simp only [z_do] at hact
    split at hact
    case h_1 a S' => have := z_x_go hact; subst this; exact lv_l2i hx hb hdg rfl (k.pure hsz hlv ok hlo)
    case h_2 => cases hact
  | lshl => have : len = 1 := by simpa [z_il] using hil
            subst this; obtain ⟨a, b, S', rfl, rfl⟩ := z_x_shl hact; exact lv_lshl hx hb hdg rfl (k.pure hsz hlv ok hlo)
  | lshr => have : len = 1 := by simpa [z_il] using hil
            subst this; obtain ⟨a, b, S', rfl, rfl⟩ := z_x_shl hact; exact lv_lshr hx hb hdg rfl (k.pure hsz hlv ok hlo)
  | land => have : len = 1 := by simpa [z_il] using hil
            subst this; obtain ⟨a, b, S', rfl, rfl⟩ := z_x_b64 hact; exact lv_land hx hb hdg (k.pure hsz hlv ok hlo)
  | lor => have : len = 1 := by simpa [z_il] using hil
           subst this; obtain ⟨a, b, S', rfl, rfl⟩ := z_x_b64 hact; exact lv_lor hx hb hdg (k.pure hsz hlv ok hlo)
  | dup =>
    have : len = 1 := by simpa [z_il] using hil
    subst this
    simp only [z_do] at hact
    split at hact
    case h_1 v S' =>
      split at hact
      case isTrue hv => have := z_x_go hact; subst this; exact lv_dup hx hb hdg (by rw [z_cat_tv hS]; exact hv) (k.pure hsz hlv ok hlo)
      case isFalse => cases hact
    case h_2 => cases hact
  | pop =>
    have : len = 1 := by simpa [z_il] using hil
    subst this
    simp only [z_do] at hact
    split at hact
    case h_1 v S' =>
      split at hact
      case isTrue hv => have := z_x_go hact; subst this; exact lv_pop hx hb hdg (by rw [z_cat_tv hS]; exact hv) (k.pure hsz hlv ok hlo)
      case isFalse => cases hact
    case h_2 => cases hact
  | dup2 =>
    have : len = 1 := by simpa [z_il] using hil
    subst this
    simp only [z_do] at hact
    split at hact
    case h_1 v w S' =>
      split at hact
      case isTrue hv => have := z_x_go hact; subst this; exact lv_dup2_11 hx hb hdg (by rw [z_cat_tv hS]; exact hv.1) (by rw [z_cat_tv hS]; exact hv.2) (k.pure hsz hlv ok hlo)
      case isFalse => cases hact
    case h_2 => cases hact
  | goto off =>
    have : len = 3 := by simpa [z_il] using hil
    subst this
    obtain ⟨t, ht, rfl⟩ := z_x_jmp hact
    exact lv_goto hx hb hdg ht (k.pure hsz hlv ok hlo)
  | ifCond cd off =>
    have : len = 3 := by simpa [z_il] using hil
    subst this
    simp only [z_do] at hact
    split at hact
    case h_2 => cases hact
    case h_1 a S' =>
      obtain ⟨t, ht, ⟨hcm, rfl⟩ | ⟨hcm, rfl⟩⟩ := z_x_br hact
      · have kk := k.pure hsz hlv ok hlo
        cases cd <;> simp only [z_cmp, decide_eq_true_iff] at hcm
        · exact lv_if_eq hx hb hdg ht (fun _ => kk) (fun q => absurd hcm q)
        · exact lv_if_ne hx hb hdg ht (fun _ => kk) (fun q => absurd q hcm)
        · exact lv_if_lt hx hb hdg ht (fun _ => kk) (fun q => absurd hcm q)
        · exact lv_if_ge hx hb hdg ht (fun _ => kk) (fun q => absurd hcm q)
        · exact lv_if_gt hx hb hdg ht (fun _ => kk) (fun q => absurd hcm q)
        · exact lv_if_le hx hb hdg ht (fun _ => kk) (fun q => absurd hcm q)
      · have kk := k.pure hsz hlv ok hlo
        cases cd <;> simp only [z_cmp, decide_eq_false_iff_not] at hcm
        · exact lv_if_eq hx hb hdg ht (fun q => absurd q hcm) (fun _ => kk)
        · exact lv_if_ne hx hb hdg ht (fun q => absurd q hcm) (fun _ => kk)
        · exact lv_if_lt hx hb hdg ht (fun q => absurd q hcm) (fun _ => kk)
        · exact lv_if_ge hx hb hdg ht (fun q => absurd q hcm) (fun _ => kk)
        · exact lv_if_gt hx hb hdg ht (fun q => absurd q hcm) (fun _ => kk)
        · exact lv_if_le hx hb hdg ht (fun q => absurd q hcm) (fun _ => kk)
  | if_icmp cd off =>
    have : len = 3 := by simpa [z_il] using hil
    subst this
    simp only [z_do] at hact
    split at hact
    case h_2 => cases hact
    case h_1 b a S' =>
      obtain ⟨t, ht, ⟨hcm, rfl⟩ | ⟨hcm, rfl⟩⟩ := z_x_br hact
      · have kk := k.pure hsz hlv ok hlo
        cases cd <;> simp only [z_cmp, decide_eq_true_iff] at hcm
        · exact lv_icmp_eq hx hb hdg ht (fun _ => kk) (fun q => absurd hcm q)
        · exact lv_icmp_ne hx hb hdg ht (fun _ => kk) (fun q => absurd q hcm)
        · exact lv_icmp_lt hx hb hdg ht (fun _ => kk) (fun q => absurd hcm q)
        · exact lv_icmp_ge hx hb hdg ht (fun _ => kk) (fun q => absurd hcm q)
        · exact lv_icmp_gt hx hb hdg ht (fun _ => kk) (fun q => absurd hcm q)
        · exact lv_icmp_le hx hb hdg ht (fun _ => kk) (fun q => absurd hcm q)
      · have kk := k.pure hsz hlv ok hlo
        cases cd <;> simp only [z_cmp, decide_eq_false_iff_not] at hcm
        · exact lv_icmp_eq hx hb hdg ht (fun q => absurd q hcm) (fun _ => kk)
        · exact lv_icmp_ne hx hb hdg ht (fun q => absurd q hcm) (fun _ => kk)
        · exact lv_icmp_lt hx hb hdg ht (fun q => absurd q hcm) (fun _ => kk)
        · exact lv_icmp_ge hx hb hdg ht (fun q => absurd q hcm) (fun _ => kk)
        · exact lv_icmp_gt hx hb hdg ht (fun q => absurd q hcm) (fun _ => kk)
        · exact lv_icmp_le hx hb hdg ht (fun q => absurd q hcm) (fun _ => kk)
  | ifnull off =>
    have : len = 3 := by simpa [z_il] using hil
    subst this
    simp only [z_do] at hact
    split at hact
    case h_2 => cases hact
    case h_1 r S' =>
      obtain ⟨b, h1, h2⟩ := z_x_bind hact
      obtain ⟨t, ht, h3⟩ := z_x_br h2
      rcases z_x_nul h1 with ⟨rfl, rfl⟩ | ⟨a, rfl, h5, rfl⟩
      · rcases h3 with ⟨-, rfl⟩ | ⟨h3, -⟩
        · exact lv_ifnullN hx hb hdg ht (k.pure hsz hlv ok hlo)
        · cases h3
      · rcases h3 with ⟨h3, -⟩ | ⟨-, rfl⟩
        · cases h3
        · rw [List.map_cons, show z_tv E (.inr (.inr (some a))) = .ref (z_B E a) from z_rv_ne h5]
          exact lv_ifnull hx hb hdg (k.pure hsz hlv ok hlo)
  | ifnonnull off =>
    have : len = 3 := by simpa [z_il] using hil
    subst this
    simp only [z_do] at hact
    split at hact
    case h_2 => cases hact
    case h_1 r S' =>
      obtain ⟨b, h1, h2⟩ := z_x_bind hact
      obtain ⟨t, ht, h3⟩ := z_x_br h2
      rcases z_x_nul h1 with ⟨rfl, rfl⟩ | ⟨a, rfl, h5, rfl⟩
      · rcases h3 with ⟨h3, -⟩ | ⟨-, rfl⟩
        · cases h3
        · exact lv_ifnonnullN hx hb hdg (k.pure hsz hlv ok hlo)
      · rcases h3 with ⟨-, rfl⟩ | ⟨h3, -⟩
        · rw [List.map_cons, show z_tv E (.inr (.inr (some a))) = .ref (z_B E a) from z_rv_ne h5]
          exact lv_ifnonnull hx hb hdg ht (k.pure hsz hlv ok hlo)
        · cases h3
  | tableswitch dflt lo hi offs =>
    simp only [z_do] at hact
    split at hact
    case h_2 => cases hact
    case h_1 a S' =>
      split at hact
      case isTrue ho =>
        obtain ⟨t, ht, rfl⟩ := z_x_jmp hact
        exact lv_tableOut hx hb hdg ho ht (k.pure hsz hlv ok hlo)
      case isFalse ho =>
        obtain ⟨off, h1, h2⟩ := z_x_bind hact
        obtain ⟨t, ht, rfl⟩ := z_x_jmp h2
        exact lv_tableIn hx hb hdg (fun q => ho (Or.inl q)) (fun q => ho (Or.inr q)) h1 ht (k.pure hsz hlv ok hlo)
  | getstatic n =>
    have : len = 3 := by simpa [z_il] using hil
    subst this
    obtain ⟨v, h1, h2⟩ := z_x_bind hact
    have := z_x_go h2; subst this
    exact z_gets hS C ok h1 hdg (k.pure hsz hlv ok hlo)
  | getfield n =>
    have : len = 3 := by simpa [z_il] using hil
    subst this
    simp only [z_do] at hact
    split at hact
    case h_2 => cases hact
    case h_1 r S' =>
      obtain ⟨⟨ci, kf, ty, fin⟩, h1, h2⟩ := z_x_bind hact
      simp only at h2
      split at h2
      case isTrue =>
        obtain ⟨x, h3, h4⟩ := z_x_bind h2
        have := z_x_go h4; subst this
        obtain ⟨a, fs, rfl, ha, hv⟩ := z_x_gR h3
        exact z_getf hS C ok h1 ha hv hdg (k.pure hsz hlv ok hlo)
      case isFalse =>
        obtain ⟨x, h3, h4⟩ := z_x_bind h2
        have := z_x_go h4; subst this
        obtain ⟨a, fs, rfl, ha, hv⟩ := z_x_gI h3
        exact z_getf hS C ok h1 ha hv hdg (k.pure hsz hlv ok hlo)
  | putfield n =>
    have : len = 3 := by simpa [z_il] using hil
    subst this
    simp only [z_do] at hact
    split at hact
    case h_3 => cases hact
    case h_1 x r S' =>
      obtain ⟨⟨ci, kf, ty, fin⟩, h1, h2⟩ := z_x_bind hact
      simp only at h2
      split at h2
      case isFalse => cases h2
      case isTrue hcd =>
        obtain ⟨h', h3, h4⟩ := z_x_bind h2
        have := z_x_go h4; subst this
        obtain ⟨a, fs, rfl, ha, hkl, hty, rfl⟩ := z_x_pI h3
        have hq6 := z_obj ok hcd.2.1 ha
        have hty3 : ty < 3 := z_ty3 h1
        refine z_putf (v := .inl x) hS C ok h1 hcd.2.1 ha hkl ?_ hcd.2.2 hy hdg (fun H1 i ok1 => ?_)
        · have := hcd.1
          rcases hty with rfl | hty
          · exact Or.inl rfl
          · rcases (show ty = 0 ∨ ty = 1 by omega) with rfl | rfl
            · exact Or.inl rfl
            · exact Or.inr ⟨rfl, hty⟩
        · have := k H1 (locs ++ [⟨z_B E a, i⟩]) ls hsz hlv ok1 (z_loapp hlo (by show z_base E ≤ z_B E a; omega))
          simpa [z_put] using this
    case h_2 x r S' =>
      obtain ⟨⟨ci, kf, ty, fin⟩, h1, h2⟩ := z_x_bind hact
      simp only at h2
      split at h2
      case isFalse => cases h2
      case isTrue hcd =>
        obtain ⟨h', h3, h4⟩ := z_x_bind h2
        have := z_x_go h4; subst this
        obtain ⟨a, fs, rfl, ha, hkl, rfl⟩ := z_x_pR h3
        have hq6 := z_obj ok hcd.2.1 ha
        refine z_putf (v := .inr (.inr x)) hS C ok h1 hcd.2.1 ha hkl hcd.1 hcd.2.2 hy hdg (fun H1 i ok1 => ?_)
        have := k H1 (locs ++ [⟨z_B E a, i⟩]) ls hsz hlv ok1 (z_loapp hlo (by show z_base E ≤ z_B E a; omega))
        simpa [z_put] using this
  | iaload =>
    have : len = 1 := by simpa [z_il] using hil
    subst this
    simp only [z_do] at hact
    split at hact
    case h_2 => cases hact
    case h_1 i r S' =>
      obtain ⟨x, h1, h2⟩ := z_x_bind hact
      have := z_x_go h2; subst this
      exact z_ldi hS C ok h1 hdg (k.pure hsz hlv ok hlo)
  | baload =>
    have : len = 1 := by simpa [z_il] using hil
    subst this
    simp only [z_do] at hact
    split at hact
    case h_2 => cases hact
    case h_1 i r S' =>
      obtain ⟨x, h1, h2⟩ := z_x_bind hact
      have := z_x_go h2; subst this
      exact z_ldb hS C ok h1 hdg (k.pure hsz hlv ok hlo)
  | aaload =>
    have : len = 1 := by simpa [z_il] using hil
    subst this
    simp only [z_do] at hact
    split at hact
    case h_2 => cases hact
    case h_1 i r S' =>
      obtain ⟨x, h1, h2⟩ := z_x_bind hact
      have := z_x_go h2; subst this
      exact z_ldr hS C ok h1 hdg (k.pure hsz hlv ok hlo)
  | iastore =>
    have : len = 1 := by simpa [z_il] using hil
    subst this
    simp only [z_do] at hact
    split at hact
    case h_2 => cases hact
    case h_1 x i r S' =>
      obtain ⟨h', h1, h2⟩ := z_x_bind hact
      have := z_x_go h2; subst this
      refine z_sti hS C ok h1 hdg (fun H1 q hq ok1 e1 e2 => ?_)
      have := k H1 (locs ++ [q]) ls hsz hlv ok1 (z_loapp hlo hq)
      simpa [e1, e2] using this
  | bastore =>
    have : len = 1 := by simpa [z_il] using hil
    subst this
    simp only [z_do] at hact
    split at hact
    case h_2 => cases hact
    case h_1 x i r S' =>
      obtain ⟨h', h1, h2⟩ := z_x_bind hact
      have := z_x_go h2; subst this
      refine z_stb hS C ok h1 hdg (fun H1 q hq ok1 e1 e2 => ?_)
      have := k H1 (locs ++ [q]) ls hsz hlv ok1 (z_loapp hlo hq)
      simpa [e1, e2] using this
  | aastore =>
    have : len = 1 := by simpa [z_il] using hil
    subst this
    simp only [z_do] at hact
    split at hact
    case h_2 => cases hact
    case h_1 x i r S' =>
      obtain ⟨h', h1, h2⟩ := z_x_bind hact
      have := z_x_go h2; subst this
      refine z_str' hS C ok h1 hdg (fun H1 q hq ok1 e1 e2 => ?_)
      have := k H1 (locs ++ [q]) ls hsz hlv ok1 (z_loapp hlo hq)
      simpa [e1, e2] using this
  | arraylength =>
    have : len = 1 := by simpa [z_il] using hil
    subst this
    simp only [z_do] at hact
    split at hact
    case h_2 => cases hact
    case h_1 r S' =>
      obtain ⟨x, h1, h2⟩ := z_x_bind hact
      have := z_x_go h2; subst this
      exact z_leni hS C ok h1 hdg (k.pure hsz hlv ok hlo)
  | new n =>
    have : len = 3 := by simpa [z_il] using hil
    subst this
    obtain ⟨ci, h1, h2⟩ := z_x_bind hact
    have := z_x_go h2; subst this
    simp only [z_new, Nat.add_sub_cancel_left] at hc hs
    refine z_newo hS C ok h1 hc hs hdg (fun H1 ok1 => ?_)
    have := k H1 locs ls hsz hlv ok1 hlo
    simp only [z_new, Nat.add_sub_cancel_left] at this
    exact this
  | newarray at' =>
    have : len = 2 := by simpa [z_il] using hil
    subst this
    simp only [z_do] at hact
    split at hact
    case h_2 => cases hact
    case h_1 n S' =>
      obtain ⟨t, h1, h2⟩ := z_x_bind hact
      split at h2
      case isFalse => cases h2
      case isTrue hn =>
        have := z_x_go h2; subst this
        simp only [z_nwI, Nat.add_sub_cancel_left] at hc hs
        refine z_newi hS C ok h1 hn.1 hn.2 hc hs hdg (fun H1 ok1 => ?_)
        have := k H1 locs ls hsz hlv ok1 hlo
        simp only [z_nwI, Nat.add_sub_cancel_left] at this
        exact this
  | anewarray n =>
    have : len = 3 := by simpa [z_il] using hil
    subst this
    simp only [z_do] at hact
    split at hact
    case h_2 => cases hact
    case h_1 n S' =>
      obtain ⟨t, h1, h2⟩ := z_x_bind hact
      split at h2
      case isFalse => cases h2
      case isTrue hn =>
        have := z_x_go h2; subst this
        simp only [z_nwR, Nat.add_sub_cancel_left] at hc hs
        refine z_newr hS C ok h1 hn.1 hn.2 hc hs hdg (fun H1 ok1 => ?_)
        have := k H1 locs ls hsz hlv ok1 hlo
        simp only [z_nwR, Nat.add_sub_cancel_left] at this
        exact this
  | invokespecial n =>
    have : len = 3 := by simpa [z_il] using hil
    subst this
    obtain ⟨qm, h1, h2⟩ := z_x_bind hact
    split at h2
    case isTrue h999 =>
      split at h2
      case h_2 => cases h2
      case h_1 r S' =>
        obtain ⟨b, hnl, h2⟩ := z_x_bind h2
        split at h2
        case isFalse => cases h2
        case isTrue hcat =>
          have := z_x_go h2; subst this
          obtain ⟨hb0, hcat⟩ := hcat
          obtain ⟨g1, g2, g3⟩ := z_tkey z_okMA h1
          simp only [g2, g3] at g1
          rcases g1 with ⟨-, g1⟩ | ⟨g1, -⟩
          · have kk := k.pure hsz hlv ok hlo
            rcases z_x_nul hnl with ⟨-, hb1⟩ | ⟨a, rfl, ha5, -⟩
            · rw [hb1] at hb0; cases hb0
            · rw [List.map_cons, show z_tv E (.inr (.inr (some a))) = .ref (z_B E a) from z_rv_ne ha5]
              have hm0 : 2 * (F0 m pc ls (.ref (z_B E a) :: S'.map (z_tv E))).monitorRoom + ((S'.map (z_tv E)).map fun v => v.category).sum ≤ 8 := lv_room (by rw [z_cats_tv hS]; exact hcat)
              exact W.objInit hx hb hown (z_word hS hw g1 rfl args) (z_word hS hw z_okO.1 rfl args) (z_word hS hw z_okO.2 rfl args) rfl (by show ls.size = c.maxLocals; rw [hml]; exact hsz) rfl hdg hfr (by omega) kk
          · omega
    case isFalse =>
      split at h2
      case h_2 => cases h2
      case h_1 r S' =>
        obtain ⟨b, hnl, h2⟩ := z_x_bind h2
        split at h2
        case isFalse => cases h2
        case isTrue => cases h2
  | invokestatic n =>
    obtain ⟨qm, h1, h2⟩ := z_x_bind hact
    split at h2
    case isFalse => cases h2
    case isTrue => cases h2
  | invokevirtual n =>
    obtain ⟨qm, h1, h2⟩ := z_x_bind hact
    split at h2
    case h_2 => cases h2
    case h_1 r S' =>
      split at h2
      case isFalse => cases h2
      case isTrue =>
        obtain ⟨u, h3, h4⟩ := z_x_bind h2
        cases h4
  | ireturn =>
    simp only [z_do] at hact
    split at hact
    case h_2 => cases hact
    case h_1 x => split at hact <;> cases hact
  | areturn =>
    simp only [z_do] at hact
    split at hact
    case h_2 => cases hact
    case h_1 x => split at hact <;> cases hact
  | return_ =>
    simp only [z_do] at hact
    split at hact
    case h_2 => cases hact
    case h_1 => split at hact <;> cases hact
  | _ => cases hact
end ZN
