/-! THE ABSTRACT MACHINE IS THE MACHINE, part 1: locals and stack -/
/-- an abstract value's own: references count from B, ghosts stand for cells outside -/
def cv (B : Nat) (ext : Nat → Nat) (v : Value) : Value := match v with
  | .ref k => .ref (B + k)
  | .retAddr j => .ref (ext j)
  | v => v
/-- the machine's locals hold the abstract ones -/
def LOC (B : Nat) (ext : Nat → Nat) (ls : Array Slot) (L : List Value) : Prop := ls.size = L.length ∧ lv_wf ls ∧ ∀ (i : Nat) (v : Value), L[i]? = some v → v ≠ rU → ls[i]? = some (.val (cv B ext v))
def rLv (B : Nat) (ext : Nat → Nat) (L : List Value) : List (Nat × Value) := (List.range L.length).filterMap (fun i => match L[i]? with
  | some v => if v = rU then none else some (i, cv B ext v)
  | none => none)
theorem rLv_mem {B : Nat} {ext : Nat → Nat} {L : List Value} {q : Nat × Value} : q ∈ rLv B ext L ↔ ∃ v, L[q.1]? = some v ∧ v ≠ rU ∧ q.2 = cv B ext v := by
  unfold rLv
  rw [List.mem_filterMap]
  constructor
  · rintro ⟨i, -, h⟩
    cases hi : L[i]? with
    | none => simp [hi] at h
    | some v =>
      simp only [hi] at h
      by_cases hv : v = rU
      · simp [hv] at h
      · rw [if_neg hv] at h
        cases h
        exact ⟨v, hi, hv, rfl⟩
  · rintro ⟨v, h1, h2, h3⟩
    refine ⟨q.1, List.mem_range.mpr (List.getElem?_eq_some_iff.mp h1).1, ?_⟩
    simp only [h1]
    rw [if_neg h2, ← h3]
theorem LOC.has {B : Nat} {ext : Nat → Nat} {ls : Array Slot} {L : List Value} (h : LOC B ext ls L) : lv_has ls L.length (rLv B ext L) := by
  refine ⟨h.1, h.2.1, fun q hq => ?_⟩
  obtain ⟨v, h1, h2, h3⟩ := rLv_mem.mp hq
  rw [h3]
  exact h.2.2 q.1 v h1 h2
theorem LOC.at {B : Nat} {ext : Nat → Nat} {ls : Array Slot} {L : List Value} (h : LOC B ext ls L) {i : Nat} {v : Value} (hi : L[i]? = some v) (hv : v ≠ rU) : ls[i]? = some (.val (cv B ext v)) := h.2.2 i v hi hv
theorem cv_cat (B : Nat) (ext : Nat → Nat) (v : Value) : (cv B ext v).category = v.category := by cases v <;> rfl
theorem rOk_cat {L : List Value} {i j : Nat} {v : Value} (h : rOk L i = true) (hj : L[j]? = some v) (hi : j + 1 = i) : v.category = 1 := by
  subst hi
  unfold rOk at h
  simp only [hj] at h
  cases v <;> first | rfl | (simp at h)
theorem LOC.st1 {B : Nat} {ext : Nat → Nat} {ls ls' : Array Slot} {L : List Value} {i : Nat} {v : Value} (hi : i < L.length) (hok : rOk L i = true)
    (h : lv_has ls' L.length ((i, cv B ext v) :: (rLv B ext L).filter (fun q => !(q.1 == i) && !(q.1 + 1 == i && q.2.category == 2)))) : LOC B ext ls' (L.set i v) := by
  refine ⟨by rw [List.length_set]; exact h.1, h.2.1, fun j w hj hw => ?_⟩
  by_cases hji : j = i
  · subst hji
    rw [List.getElem?_set_self hi] at hj
    cases hj
    exact h.2.2 (j, cv B ext v) List.mem_cons_self
  · rw [List.getElem?_set_ne (Ne.symm hji)] at hj
    refine h.2.2 (j, cv B ext w) (List.mem_cons_of_mem _ (List.mem_filter.mpr ⟨rLv_mem.mpr ⟨w, hj, hw, rfl⟩, ?_⟩))
    by_cases hj1 : j + 1 = i
    · have := rOk_cat hok hj hj1
      simp [hji, cv_cat, this]
    · simp [hji, hj1]
theorem LOC.st2 {B : Nat} {ext : Nat → Nat} {ls ls' : Array Slot} {L : List Value} {i : Nat} {v : Value} (hi : i + 1 < L.length) (hok : rOk L i = true)
    (h : lv_has ls' L.length ((i, cv B ext v) :: (rLv B ext L).filter (fun q => !(q.1 == i) && (!(q.1 == i + 1) && !(q.1 + 1 == i && q.2.category == 2))))) : LOC B ext ls' ((L.set i v).set (i + 1) rU) := by
  refine ⟨by rw [List.length_set, List.length_set]; exact h.1, h.2.1, fun j w hj hw => ?_⟩
  by_cases hj2 : j = i + 1
  · subst hj2
    rw [List.getElem?_set_self (by rw [List.length_set]; exact hi)] at hj
    cases hj
    exact absurd rfl hw
  · rw [List.getElem?_set_ne (Ne.symm hj2)] at hj
    by_cases hji : j = i
    · subst hji
      rw [List.getElem?_set_self (by omega)] at hj
      cases hj
      exact h.2.2 (j, cv B ext v) List.mem_cons_self
    · rw [List.getElem?_set_ne (Ne.symm hji)] at hj
      refine h.2.2 (j, cv B ext w) (List.mem_cons_of_mem _ (List.mem_filter.mpr ⟨rLv_mem.mpr ⟨w, hj, hw, rfl⟩, ?_⟩))
      by_cases hj1 : j + 1 = i
      · have := rOk_cat hok hj hj1
        simp [hji, hj2, cv_cat, this]
      · simp [hji, hj1, hj2]
theorem rI2_some {L st L1 st1 : List Value} {f : Int32 → Int32 → Int32} (h : rI2 L st f = some (L1, st1)) : ∃ x y r, st = .int y :: .int x :: r ∧ L1 = L ∧ st1 = .int (f x y) :: r := by
  unfold rI2 at h
  split at h
  · cases h
    exact ⟨_, _, _, rfl, rfl, rfl⟩
  · cases h
theorem rI2z_some {L st L1 st1 : List Value} {f : Int32 → Int32 → Int32} (h : rI2z L st f = some (L1, st1)) : ∃ x y r, st = .int y :: .int x :: r ∧ L1 = L ∧ st1 = .int (f x y) :: r ∧ ¬ y = 0 := by
  unfold rI2z at h
  split at h
  · split at h
    · cases h
    · cases h
      exact ⟨_, _, _, rfl, rfl, rfl, by assumption⟩
  · cases h
theorem rJ2_some {L st L1 st1 : List Value} {f : Int64 → Int64 → Int64} (h : rJ2 L st f = some (L1, st1)) : ∃ x y r, st = .long y :: .long x :: r ∧ L1 = L ∧ st1 = .long (f x y) :: r := by
  unfold rJ2 at h
  split at h
  · cases h
    exact ⟨_, _, _, rfl, rfl, rfl⟩
  · cases h
theorem rI1_some {L st L1 st1 : List Value} {f : Int32 → Int32} (h : rI1 L st f = some (L1, st1)) : ∃ x r, st = .int x :: r ∧ L1 = L ∧ st1 = .int (f x) :: r := by
  unfold rI1 at h
  split at h
  · cases h
    exact ⟨_, _, rfl, rfl, rfl⟩
  · cases h
theorem rLdI_some {L st L1 st1 : List Value} {i : Nat} (h : rLdI L i st = some (L1, st1)) : ∃ x, L[i]? = some (.int x) ∧ L1 = L ∧ st1 = .int x :: st := by
  unfold rLdI at h
  split at h
  · cases h
    exact ⟨_, by assumption, rfl, rfl⟩
  · cases h
theorem rLdJ_some {L st L1 st1 : List Value} {i : Nat} (h : rLdJ L i st = some (L1, st1)) : ∃ x, L[i]? = some (.long x) ∧ L1 = L ∧ st1 = .long x :: st := by
  unfold rLdJ at h
  split at h
  · cases h
    exact ⟨_, by assumption, rfl, rfl⟩
  · cases h
theorem rLdA_some {B : Nat} {ext : Nat → Nat} {L st L1 st1 : List Value} {i : Nat} (h : rLdA L i st = some (L1, st1)) : ∃ v x, L[i]? = some v ∧ v ≠ rU ∧ cv B ext v = .ref x ∧ L1 = L ∧ st1 = v :: st := by
  unfold rLdA at h
  split at h
  · cases h
    exact ⟨_, _, by assumption, by simp, rfl, rfl, rfl⟩
  · cases h
    exact ⟨_, _, by assumption, by simp, rfl, rfl, rfl⟩
  · cases h
theorem rSt1_some {L st L1 st1 : List Value} {i : Nat} {v : Value} (h : rSt1 L i v st = some (L1, st1)) : (i < L.length ∧ rOk L i = true) ∧ L1 = L.set i v ∧ st1 = st := by
  unfold rSt1 at h
  split at h
  · cases h
    exact ⟨by assumption, rfl, rfl⟩
  · cases h
theorem rSt2_some {L st L1 st1 : List Value} {i : Nat} {v : Value} (h : rSt2 L i v st = some (L1, st1)) : (i + 1 < L.length ∧ rOk L i = true) ∧ L1 = (L.set i v).set (i + 1) rU ∧ st1 = st := by
  unfold rSt2 at h
  split at h
  · cases h
    exact ⟨by assumption, rfl, rfl⟩
  · cases h
theorem rStI_some {L st L1 st1 : List Value} {i : Nat} (h : rStI L i st = some (L1, st1)) : ∃ x, st = .int x :: st1 ∧ (i < L.length ∧ rOk L i = true) ∧ L1 = L.set i (.int x) := by
  unfold rStI at h
  split at h
  · obtain ⟨h1, h2, rfl⟩ := rSt1_some h
    exact ⟨_, rfl, h1, h2⟩
  · cases h
theorem rStJ_some {L st L1 st1 : List Value} {i : Nat} (h : rStJ L i st = some (L1, st1)) : ∃ x, st = .long x :: st1 ∧ (i + 1 < L.length ∧ rOk L i = true) ∧ L1 = (L.set i (.long x)).set (i + 1) rU := by
  unfold rStJ at h
  split at h
  · obtain ⟨h1, h2, rfl⟩ := rSt2_some h
    exact ⟨_, rfl, h1, h2⟩
  · cases h
theorem rStA_some {L st L1 st1 : List Value} {i : Nat} (h : rStA L i st = some (L1, st1)) : ∃ x, st = .ref x :: st1 ∧ (i < L.length ∧ rOk L i = true) ∧ L1 = L.set i (.ref x) := by
  unfold rStA at h
  split at h
  · obtain ⟨h1, h2, rfl⟩ := rSt1_some h
    exact ⟨_, rfl, h1, h2⟩
  · cases h
theorem rC1_cat {B : Nat} {ext : Nat → Nat} {v : Value} (h : rC1 v = true) : (cv B ext v).category = 1 := by
  rw [cv_cat]
  cases v <;> first | rfl | (simp [rC1] at h)
section SP
variable {p : Program} {l : Launch} {e : Env} {R : Room} {s : State} {m : MethodId} {args : Array Value} {below : List Frame} {meth : Method} {c : Code} {H : Heap} {locs : List Loc} {cells slots : Nat} {Q : State → Prop}
variable {cc : ByteArray} {pc len B : Nat} {ext : Nat → Nat} {ls : Array Slot} {L st L1 st1 : List Value} {i : Jvm.ClassFile.Instr}
set_option maxHeartbeats 4000000 in
theorem w_P (hx : p.tables.exec = Jvm.exec) (hb : c.code = cc) (hdg : decode cc pc = .ok (i, len)) (hq : rLq i len = true) (hl : LOC B ext ls L) (h : rP i L st = some (L1, st1))
    (kk : ∀ ls', LOC B ext ls' L1 → W p l e R s m args below meth c H locs cells slots Q (F0 m (pc + len) ls' (st1.map (cv B ext)))) : W p l e R s m args below meth c H locs cells slots Q (F0 m pc ls (st.map (cv B ext))) := by
  cases i
  case iconst n =>
    simp only [rP, Option.some.injEq, Prod.mk.injEq] at h
    obtain ⟨rfl, rfl⟩ := h
    obtain rfl : len = 1 := by simpa [rLq] using hq
    exact lv_iconst hx hb hdg rfl (kk ls hl)
  case bipush n =>
    simp only [rP, Option.some.injEq, Prod.mk.injEq] at h
    obtain ⟨rfl, rfl⟩ := h
    obtain rfl : len = 2 := by simpa [rLq] using hq
    exact lv_bipush hx hb hdg rfl (kk ls hl)
  case sipush n =>
    simp only [rP, Option.some.injEq, Prod.mk.injEq] at h
    obtain ⟨rfl, rfl⟩ := h
    obtain rfl : len = 3 := by simpa [rLq] using hq
    exact lv_sipush hx hb hdg rfl (kk ls hl)
  case lconst n =>
    simp only [rP, Option.some.injEq, Prod.mk.injEq] at h
    obtain ⟨rfl, rfl⟩ := h
    obtain rfl : len = 1 := by simpa [rLq] using hq
    exact lv_lconst hx hb hdg rfl (kk ls hl)
  case iload_n k =>
    obtain ⟨x, h1, rfl, rfl⟩ := rLdI_some h
    obtain rfl : len = 1 := by simpa [rLq] using hq
    exact lv_iload_n hx hb hdg rfl (hl.at h1 (by simp)) (kk ls hl)
  case iload k =>
    obtain ⟨x, h1, rfl, rfl⟩ := rLdI_some h
    obtain rfl : len = 2 := by simpa [rLq] using hq
    exact lv_iload hx hb hdg (hl.at h1 (by simp)) (kk ls hl)
  case lload_n k =>
    obtain ⟨x, h1, rfl, rfl⟩ := rLdJ_some h
    obtain rfl : len = 1 := by simpa [rLq] using hq
    exact lv_lload_n hx hb hdg rfl (hl.at h1 (by simp)) (kk ls hl)
  case lload k =>
    obtain ⟨x, h1, rfl, rfl⟩ := rLdJ_some h
    obtain rfl : len = 2 := by simpa [rLq] using hq
    exact lv_lload hx hb hdg (hl.at h1 (by simp)) (kk ls hl)
  case aload_n k =>
    obtain ⟨v, x, h1, h2, h3, rfl, rfl⟩ := rLdA_some (B := B) (ext := ext) h
    obtain rfl : len = 1 := by simpa [rLq] using hq
    have h4 := hl.at h1 h2
    rw [h3] at h4
    have k2 := kk ls hl
    rw [List.map_cons, h3] at k2
    exact lv_aload_n hx hb hdg rfl h4 k2
  case aload k =>
    obtain ⟨v, x, h1, h2, h3, rfl, rfl⟩ := rLdA_some (B := B) (ext := ext) h
    obtain rfl : len = 2 := by simpa [rLq] using hq
    have h4 := hl.at h1 h2
    rw [h3] at h4
    have k2 := kk ls hl
    rw [List.map_cons, h3] at k2
    exact lv_aload hx hb hdg h4 k2
  case istore_n k =>
    obtain ⟨x, rfl, h1, rfl⟩ := rStI_some h
    obtain rfl : len = 1 := by simpa [rLq] using hq
    exact lv_istore_n hx hb hdg rfl hl.has h1.1 rfl (fun ls' h' => kk ls' (LOC.st1 (v := .int x) (ls := ls) h1.1 h1.2 h'))
  case istore k =>
    obtain ⟨x, rfl, h1, rfl⟩ := rStI_some h
    obtain rfl : len = 2 := by simpa [rLq] using hq
    exact lv_istore hx hb hdg hl.has h1.1 rfl (fun ls' h' => kk ls' (LOC.st1 (v := .int x) (ls := ls) h1.1 h1.2 h'))
  case lstore_n k =>
    obtain ⟨x, rfl, h1, rfl⟩ := rStJ_some h
    obtain rfl : len = 1 := by simpa [rLq] using hq
    exact lv_lstore_n hx hb hdg rfl hl.has h1.1 rfl (fun ls' h' => kk ls' (LOC.st2 (v := .long x) (ls := ls) h1.1 h1.2 h'))
  case lstore k =>
    obtain ⟨x, rfl, h1, rfl⟩ := rStJ_some h
    obtain rfl : len = 2 := by simpa [rLq] using hq
    exact lv_lstore hx hb hdg hl.has h1.1 rfl (fun ls' h' => kk ls' (LOC.st2 (v := .long x) (ls := ls) h1.1 h1.2 h'))
  case astore_n k =>
    obtain ⟨x, rfl, h1, rfl⟩ := rStA_some h
    obtain rfl : len = 1 := by simpa [rLq] using hq
    exact lv_astore_n hx hb hdg rfl hl.has h1.1 rfl (fun ls' h' => kk ls' (LOC.st1 (v := .ref x) (ls := ls) h1.1 h1.2 h'))
  case astore k =>
    obtain ⟨x, rfl, h1, rfl⟩ := rStA_some h
    obtain rfl : len = 2 := by simpa [rLq] using hq
    exact lv_astore hx hb hdg hl.has h1.1 rfl (fun ls' h' => kk ls' (LOC.st1 (v := .ref x) (ls := ls) h1.1 h1.2 h'))
  case iinc k n =>
    obtain rfl : len = 3 := by simpa [rLq] using hq
    simp only [rP] at h
    unfold rInc at h
    split at h
    · rename_i x hx1
      obtain ⟨h1, rfl, rfl⟩ := rSt1_some h
      obtain ⟨kq, hkq⟩ := List.getElem?_of_mem (rLv_mem (B := B) (ext := ext) (L := L) (q := (k, cv B ext (.int x))) |>.mpr ⟨_, hx1, by simp, rfl⟩)
      exact lv_iinc hx hb hdg hl.has hkq rfl h1.1 rfl (fun ls' h' => kk ls' (LOC.st1 (v := .int (x + Int32.ofInt n)) (ls := ls) h1.1 h1.2 h'))
    · cases h
  case iadd =>
    obtain ⟨x, y, r, rfl, rfl, rfl⟩ := rI2_some h
    obtain rfl : len = 1 := by simpa [rLq] using hq
    exact lv_iadd hx hb hdg (kk ls hl)
  case isub =>
    obtain ⟨x, y, r, rfl, rfl, rfl⟩ := rI2_some h
    obtain rfl : len = 1 := by simpa [rLq] using hq
    exact lv_isub hx hb hdg (kk ls hl)
  case imul =>
    obtain ⟨x, y, r, rfl, rfl, rfl⟩ := rI2_some h
    obtain rfl : len = 1 := by simpa [rLq] using hq
    exact lv_imul hx hb hdg (kk ls hl)
  case iand =>
    obtain ⟨x, y, r, rfl, rfl, rfl⟩ := rI2_some h
    obtain rfl : len = 1 := by simpa [rLq] using hq
    exact lv_iand hx hb hdg (kk ls hl)
  case ior =>
    obtain ⟨x, y, r, rfl, rfl, rfl⟩ := rI2_some h
    obtain rfl : len = 1 := by simpa [rLq] using hq
    exact lv_ior hx hb hdg (kk ls hl)
  case ixor =>
    obtain ⟨x, y, r, rfl, rfl, rfl⟩ := rI2_some h
    obtain rfl : len = 1 := by simpa [rLq] using hq
    exact lv_ixor hx hb hdg (kk ls hl)
  case ishl =>
    obtain ⟨x, y, r, rfl, rfl, rfl⟩ := rI2_some h
    obtain rfl : len = 1 := by simpa [rLq] using hq
    exact lv_ishl hx hb hdg (kk ls hl)
  case ishr =>
    obtain ⟨x, y, r, rfl, rfl, rfl⟩ := rI2_some h
    obtain rfl : len = 1 := by simpa [rLq] using hq
    exact lv_ishr hx hb hdg (kk ls hl)
  case iushr =>
    obtain ⟨x, y, r, rfl, rfl, rfl⟩ := rI2_some h
    obtain rfl : len = 1 := by simpa [rLq] using hq
    exact lv_iushr hx hb hdg rfl (kk ls hl)
  case idiv =>
    obtain ⟨x, y, r, rfl, rfl, rfl, hy⟩ := rI2z_some h
    obtain rfl : len = 1 := by simpa [rLq] using hq
    exact lv_idiv hx hb hdg hy (kk ls hl)
  case irem =>
    obtain ⟨x, y, r, rfl, rfl, rfl, hy⟩ := rI2z_some h
    obtain rfl : len = 1 := by simpa [rLq] using hq
    exact lv_irem hx hb hdg hy (kk ls hl)
  case ineg =>
    obtain ⟨x, r, rfl, rfl, rfl⟩ := rI1_some h
    obtain rfl : len = 1 := by simpa [rLq] using hq
    exact lv_ineg hx hb hdg (kk ls hl)
  case i2b =>
    obtain ⟨x, r, rfl, rfl, rfl⟩ := rI1_some h
    obtain rfl : len = 1 := by simpa [rLq] using hq
    exact lv_i2b hx hb hdg rfl (kk ls hl)
  case i2s =>
    obtain ⟨x, r, rfl, rfl, rfl⟩ := rI1_some h
    obtain rfl : len = 1 := by simpa [rLq] using hq
    exact lv_i2s hx hb hdg rfl (kk ls hl)
  case ladd =>
    obtain ⟨x, y, r, rfl, rfl, rfl⟩ := rJ2_some h
    obtain rfl : len = 1 := by simpa [rLq] using hq
    exact lv_ladd hx hb hdg (kk ls hl)
  case lmul =>
    obtain ⟨x, y, r, rfl, rfl, rfl⟩ := rJ2_some h
    obtain rfl : len = 1 := by simpa [rLq] using hq
    exact lv_lmul hx hb hdg (kk ls hl)
  case land =>
    obtain ⟨x, y, r, rfl, rfl, rfl⟩ := rJ2_some h
    obtain rfl : len = 1 := by simpa [rLq] using hq
    exact lv_land hx hb hdg (kk ls hl)
  case lor =>
    obtain ⟨x, y, r, rfl, rfl, rfl⟩ := rJ2_some h
    obtain rfl : len = 1 := by simpa [rLq] using hq
    exact lv_lor hx hb hdg (kk ls hl)
  case lshl =>
    obtain rfl : len = 1 := by simpa [rLq] using hq
    simp only [rP] at h
    split at h
    · cases h
      exact lv_lshl hx hb hdg rfl (kk ls hl)
    · cases h
  case i2l =>
    obtain rfl : len = 1 := by simpa [rLq] using hq
    simp only [rP] at h
    split at h
    · cases h
      exact lv_i2l hx hb hdg rfl (kk ls hl)
    · cases h
  case l2i =>
    obtain rfl : len = 1 := by simpa [rLq] using hq
    simp only [rP] at h
    split at h
    · cases h
      exact lv_l2i hx hb hdg rfl (kk ls hl)
    · cases h
  case lcmp =>
    obtain rfl : len = 1 := by simpa [rLq] using hq
    simp only [rP] at h
    split at h
    · cases h
      exact W.lcmp hx hb hdg (kk ls hl)
    · cases h
  case dup =>
    obtain rfl : len = 1 := by simpa [rLq] using hq
    simp only [rP, rDup] at h
    split at h
    · split at h
      · rename_i hc
        cases h
        exact lv_dup hx hb hdg (rC1_cat hc) (kk ls hl)
      · cases h
    · cases h
  case pop =>
    obtain rfl : len = 1 := by simpa [rLq] using hq
    simp only [rP, rPop] at h
    split at h
    · split at h
      · rename_i hc
        cases h
        exact lv_pop hx hb hdg (rC1_cat hc) (kk ls hl)
      · cases h
    · cases h
  case dup_x1 =>
    obtain rfl : len = 1 := by simpa [rLq] using hq
    simp only [rP, rDupX1] at h
    split at h
    · split at h
      · rename_i hc
        cases h
        exact lv_dup_x1 hx hb hdg (rC1_cat hc.1) (rC1_cat hc.2) (kk ls hl)
      · cases h
    · cases h
  case dup2 =>
    obtain rfl : len = 1 := by simpa [rLq] using hq
    simp only [rP, rDup2] at h
    split at h
    · split at h
      · rename_i hc
        cases h
        exact lv_dup2_11 hx hb hdg (rC1_cat hc.1) (rC1_cat hc.2) (kk ls hl)
      · cases h
    · cases h
  all_goals (simp [rP] at h)
theorem rTo_some {z : Int} {t : Nat} (h : rTo z = some t) : z = (t : Int) := by
  unfold rTo at h
  split at h
  · cases h
    omega
  · cases h
set_option maxHeartbeats 4000000 in
theorem w_B {pc1 : Nat} (hx : p.tables.exec = Jvm.exec) (hb : c.code = cc) (hdg : decode cc pc = .ok (i, len)) (hq : rLq i len = true) (h : rB i pc st = some (pc1, st1))
    (kk : W p l e R s m args below meth c H locs cells slots Q (F0 m pc1 ls (st1.map (cv B ext)))) : W p l e R s m args below meth c H locs cells slots Q (F0 m pc ls (st.map (cv B ext))) := by
  cases i
  case goto o =>
    obtain rfl : len = 3 := by simpa [rLq] using hq
    simp only [rB] at h
    split at h
    · rename_i t ht
      cases h
      exact lv_goto hx hb hdg (rTo_some ht) kk
    · cases h
  case ifCond cd o =>
    obtain rfl : len = 3 := by simpa [rLq] using hq
    simp only [rB] at h
    split at h
    · rename_i x r t ht
      simp only [Option.some.injEq, Prod.mk.injEq] at h
      obtain ⟨rfl, rfl⟩ := h
      cases cd
      · exact lv_if_eq hx hb hdg (rTo_some ht) (fun q => by simpa [rCnd, q] using kk) (fun q => by simpa [rCnd, q] using kk)
      · exact lv_if_ne hx hb hdg (rTo_some ht) (fun q => by simpa [rCnd, q] using kk) (fun q => by simpa [rCnd, q] using kk)
      · exact lv_if_lt hx hb hdg (rTo_some ht) (fun q => by simpa [rCnd, q] using kk) (fun q => by simpa [rCnd, q] using kk)
      · exact lv_if_ge hx hb hdg (rTo_some ht) (fun q => by simpa only [rCnd, q, decide_true, if_true] using kk) (fun q => by simpa only [rCnd, q, decide_false, Bool.false_eq_true, if_false] using kk)
      · exact lv_if_gt hx hb hdg (rTo_some ht) (fun q => by simpa only [rCnd, q, decide_true, if_true] using kk) (fun q => by simpa only [rCnd, q, decide_false, Bool.false_eq_true, if_false] using kk)
      · exact lv_if_le hx hb hdg (rTo_some ht) (fun q => by simpa only [rCnd, q, decide_true, if_true] using kk) (fun q => by simpa only [rCnd, q, decide_false, Bool.false_eq_true, if_false] using kk)
    · cases h
  case if_icmp cd o =>
    obtain rfl : len = 3 := by simpa [rLq] using hq
    simp only [rB] at h
    split at h
    · rename_i y x r t ht
      simp only [Option.some.injEq, Prod.mk.injEq] at h
      obtain ⟨rfl, rfl⟩ := h
      cases cd
      · exact lv_icmp_eq hx hb hdg (rTo_some ht) (fun q => by simpa [rCnd, q] using kk) (fun q => by simpa [rCnd, q] using kk)
      · exact lv_icmp_ne hx hb hdg (rTo_some ht) (fun q => by simpa [rCnd, q] using kk) (fun q => by simpa [rCnd, q] using kk)
      · exact lv_icmp_lt hx hb hdg (rTo_some ht) (fun q => by simpa only [rCnd, q, decide_true, if_true] using kk) (fun q => by simpa only [rCnd, q, decide_false, Bool.false_eq_true, if_false] using kk)
      · exact lv_icmp_ge hx hb hdg (rTo_some ht) (fun q => by simpa only [rCnd, q, decide_true, if_true] using kk) (fun q => by simpa only [rCnd, q, decide_false, Bool.false_eq_true, if_false] using kk)
      · exact lv_icmp_gt hx hb hdg (rTo_some ht) (fun q => by simpa only [rCnd, q, decide_true, if_true] using kk) (fun q => by simpa only [rCnd, q, decide_false, Bool.false_eq_true, if_false] using kk)
      · exact lv_icmp_le hx hb hdg (rTo_some ht) (fun q => by simpa only [rCnd, q, decide_true, if_true] using kk) (fun q => by simpa only [rCnd, q, decide_false, Bool.false_eq_true, if_false] using kk)
    · cases h
  case tableswitch df lo hi offs =>
    simp only [rB] at h
    split at h
    · rename_i x r
      split at h
      · rename_i hout
        split at h
        · rename_i t ht
          cases h
          exact lv_tableOut hx hb hdg hout (rTo_some ht) kk
        · cases h
      · rename_i hin
        split at h
        · rename_i o ho
          split at h
          · rename_i t ht
            cases h
            exact lv_tableIn hx hb hdg (fun q => hin (Or.inl q)) (fun q => hin (Or.inr q)) ho (rTo_some ht) kk
          · cases h
        · cases h
    · cases h
  case lookupswitch df ps =>
    simp only [rB] at h
    split at h
    · rename_i x r
      split at h
      · rename_i hps
        split at h
        · rename_i t ht
          cases h
          exact lv_lookup hx hb hdg hps rfl (rTo_some ht) kk
        · cases h
      · cases h
    · cases h
  all_goals (simp [rB] at h)
end SP
