/-! THE ABSTRACT MACHINE IS THE MACHINE, part 5: growth, entries, contracts -/
theorem rH_grow {X : Nat → Nat × (Nat → Int32)} {d : Nat} {M : rM} {i : Jvm.ClassFile.Instr} {st st1 : List Value} {T : List (Nat × Nat)} {I : Nat → Nat → Int32} {J : Nat → Nat → Int64} {Rr : Nat → Nat → Option Nat} {σ1 : rS} (h : rH X d M i st T I J Rr = some (st1, σ1)) : T.length ≤ σ1.1.length ∧ rSl T ≤ rSl σ1.1 := by
  cases i <;> simp only [rH] at h
  all_goals (repeat' split at h)
  all_goals first | (cases h; done) | (simp only [Option.some.injEq, Prod.mk.injEq] at h; obtain ⟨-, rfl⟩ := h; constructor <;> simp [rSl_push])
theorem rI_grow (X : Nat → Nat × (Nat → Int32)) : ∀ (n : Nat) {d : Nat} {M : rM} {pc : Nat} {L st : List Value} {σ : rS} {v : Option Value} {σ1 : rS}, rI X n d M pc L st σ = some (v, σ1) → σ.1.length ≤ σ1.1.length ∧ rSl σ.1 ≤ rSl σ1.1 := by
  intro n
  induction n with
  | zero => intro d M pc L st σ v σ1 h; simp [rI] at h
  | succ n ih =>
    intro d M pc L st σ v σ1 h
    rw [rI] at h
    split at h
    · cases h
    · split at h
      · exact ih h
      · split at h
        · exact ih h
        · split at h
          · rename_i h3
            have a1 := rH_grow h3
            have a2 := ih h
            omega
          · split at h
            · split at h
              · split at h
                · rename_i h6
                  have a1 := ih h6
                  have a2 := ih h
                  omega
                · cases h
              · cases h
            · split at h
              · cases h
                exact ⟨Nat.le_refl _, Nat.le_refl _⟩
              · cases h
theorem rP_len {i : Jvm.ClassFile.Instr} {L st L1 st1 : List Value} (h : rP i L st = some (L1, st1)) : L1.length = L.length := by
  cases i <;> simp only [rP] at h
  all_goals first
    | (cases h; done)
    | (simp only [Option.some.injEq, Prod.mk.injEq] at h; rw [← h.1]; done)
    | (obtain ⟨x, h1, rfl, h2⟩ := rLdI_some h; rfl)
    | (obtain ⟨x, h1, rfl, h2⟩ := rLdJ_some h; rfl)
    | (obtain ⟨w, x, h1, h2, h3, rfl, h4⟩ := rLdA_some (B := 0) (ext := id) h; rfl)
    | (obtain ⟨x, h1, h2, rfl⟩ := rStI_some h; simp; done)
    | (obtain ⟨x, h1, h2, rfl⟩ := rStJ_some h; simp; done)
    | (obtain ⟨x, h1, h2, rfl⟩ := rStA_some h; simp; done)
    | (obtain ⟨x, y, r, h1, rfl, h2⟩ := rI2_some h; rfl)
    | (obtain ⟨x, y, r, h1, rfl, h2⟩ := rI2z_some h; rfl)
    | (obtain ⟨x, y, r, h1, rfl, h2⟩ := rJ2_some h; rfl)
    | (obtain ⟨x, r, h1, rfl, h2⟩ := rI1_some h; rfl)
    | (unfold rInc at h; split at h <;> first | (cases h; done) | (obtain ⟨h1, rfl, h2⟩ := rSt1_some h; simp; done))
    | (unfold rDup at h; (repeat' split at h) <;> first | (cases h; done) | (cases h; rfl))
    | (unfold rPop at h; (repeat' split at h) <;> first | (cases h; done) | (cases h; rfl))
    | (unfold rDupX1 at h; (repeat' split at h) <;> first | (cases h; done) | (cases h; rfl))
    | (unfold rDup2 at h; (repeat' split at h) <;> first | (cases h; done) | (cases h; rfl))
    | (split at h <;> first | (cases h; done) | (cases h; rfl))
theorem lg_cons (a : Value) (l : List Value) : lg_sl (a :: l) = (if a.category = 2 then [Slot.val a, Slot.second] else [Slot.val a]) ++ lg_sl l := by simp [lg_sl]
theorem rArg_len (B : Nat) (ext : Nat → Nat) : ∀ as : List Value, (lg_sl (List.map (cv B ext) as)).length = (rArg as).length
  | [] => rfl
  | a :: as => by
    have ih := rArg_len B ext as
    rw [List.map_cons, lg_cons, List.length_append, ih, cv_cat]
    cases a <;> simp [rArg, Value.category] <;> omega
theorem rArg_mem (B : Nat) (ext : Nat → Nat) : ∀ (as : List Value) (k i : Nat) (v : Value), (rArg as)[i]? = some v → v ≠ rU → (k + i, cv B ext v) ∈ lv_args k (List.map (cv B ext) as)
  | [], k, i, v, h, hv => by simp [rArg] at h
  | a :: as, k, i, v, h, hv => by
    have one : ∀ (h1 : rArg (a :: as) = a :: rArg as) (h2 : ¬ (cv B ext a).category = 2), (k + i, cv B ext v) ∈ lv_args k (List.map (cv B ext) (a :: as)) := by
      intro h1 h2
      rw [h1] at h
      rw [List.map_cons, lv_args, if_neg h2]
      cases i with
      | zero =>
        cases h
        exact List.mem_cons_self
      | succ i =>
        have := rArg_mem B ext as (k + 1) i v h hv
        rw [show k + 1 + i = k + (i + 1) by omega] at this
        exact List.mem_cons_of_mem _ this
    have two : ∀ (h1 : rArg (a :: as) = a :: rU :: rArg as) (h2 : (cv B ext a).category = 2), (k + i, cv B ext v) ∈ lv_args k (List.map (cv B ext) (a :: as)) := by
      intro h1 h2
      rw [h1] at h
      rw [List.map_cons, lv_args, if_pos h2]
      match i, h with
      | 0, h =>
        cases h
        exact List.mem_cons_self
      | 1, h =>
        cases h
        exact absurd rfl hv
      | i + 2, h =>
        have := rArg_mem B ext as (k + 2) i v h hv
        rw [show k + 2 + i = k + (i + 2) by omega] at this
        exact List.mem_cons_of_mem _ this
    cases a with
    | long x => exact two rfl rfl
    | double x => exact two rfl rfl
    | int x => exact one rfl (by show ¬ (1 = 2); decide)
    | float x => exact one rfl (by show ¬ (1 = 2); decide)
    | null => exact one rfl (by show ¬ (1 = 2); decide)
    | ref x => exact one rfl (by show ¬ (1 = 2); decide)
    | retAddr x => exact one rfl (by show ¬ (1 = 2); decide)
theorem loc_entry (B : Nat) (ext : Nat → Nat) (as : List Value) {n : Nat} (h : (rArg as).length ≤ n) : LOC B ext ((lg_sl (List.map (cv B ext) as) ++ List.replicate (n - (lg_sl (List.map (cv B ext) as)).length) Slot.unset).toArray) (rArg as ++ List.replicate (n - (rArg as).length) rU) := by
  have hl := lv_entry (List.map (cv B ext) as) (n := n) (by rw [rArg_len]; exact h)
  refine ⟨?_, hl.2.1, fun i v hi hv => ?_⟩
  · rw [hl.1]
    simp
    omega
  · by_cases hlt : i < (rArg as).length
    · rw [List.getElem?_append_left hlt] at hi
      have := rArg_mem B ext as 0 i v hi hv
      rw [Nat.zero_add] at this
      exact hl.2.2 _ this
    · rw [List.getElem?_append_right (by omega)] at hi
      have := List.mem_of_getElem? hi
      exact absurd (List.eq_of_mem_replicate this) hv
theorem Cx.moved {B : Nat} {dC : Nat → ClassId} {dI : Nat → Nat → Nat} {cI cL cS : ClassId} {ext : Nat → Nat} {X : Nat → Nat × (Nat → Int32)} {u U : State} (hvm : u.vm.Alike U.vm) (hH : U.heap = u.heap) (h : Cx B dC dI cI cL cS ext X u) : Cx B dC dI cI cL cS ext X U :=
  ⟨va_K.moved hvm h.1, fun j hj => by rw [hH]; exact va_Z.moved hvm (h.2.1 j hj), fun j hj => by rw [hH]; exact va_T.moved hvm (h.2.2 j hj)⟩
theorem Cx.go {B : Nat} {dC : Nat → ClassId} {dI : Nat → Nat → Nat} {cI cL cS : ClassId} {ext : Nat → Nat} {X : Nat → Nat × (Nat → Int32)} {s U : State} {H : Heap} {locs : List Loc} (hC : Cx B dC dI cI cL cS ext X s) (hS : va_S (fun q => B ≤ q) s.heap H locs) (hU : U.heap = H) (hvm : s.vm.Alike U.vm) : Cx B dC dI cI cL cS ext X U :=
  ⟨va_K.moved hvm hC.1, fun j hj => by rw [hU]; exact va_Z.moved hvm ((hC.2.1 j hj).kept (fun a h1 h2 => hS.2.1 a h1 h2)), fun j hj => by rw [hU]; exact va_T.moved hvm ((hC.2.2 j hj).kept (fun a h1 h2 => hS.2.1 a h1 h2))⟩
/-- a method's start and end, as the abstract machine says them -/
def cPc (B : Nat) (dC : Nat → ClassId) (dI : Nat → Nat → Nat) (cI cL cS : ClassId) (ext : Nat → Nat) (X : Nat → Nat × (Nat → Int32)) (as : List Value) (σ : rS) : Array Value → State → Prop := va_Pc (List.map (cv B ext) as) (fun U => U.heap.size = B + σ.1.length ∧ va_P (dC, dI) vwCl (rWd B cI cL cS σ) U.heap ∧ Cx B dC dI cI cL cS ext X U ∧ Cn U)
def cQc (B : Nat) (dC : Nat → ClassId) (dI : Nat → Nat → Nat) (cI cL cS : ClassId) (ext : Nat → Nat) (v : Option Value) (σ1 : rS) : Array Value → State → Outcome → State → Prop := fun _ st o t => o = .returned (v.map (cv B ext)) ∧ va_P (dC, dI) vwCl (rWd B cI cL cS σ1) t.heap ∧ va_F (fun q => B ≤ q) st t
def cWs (M : rM) : List Cond := Cond.code M.2.1 M.2.2.1 M.2.2.2.1 M.2.2.2.2.1 :: lw_gd
def cRm (d : Nat) (σ σ1 : rS) : Room := { frames := d, cells := σ1.1.length - σ.1.length, slots := rSl σ1.1 - rSl σ.1, locals := 40 * d }
def Ctr (l : Launch) (B : Nat) (dC : Nat → ClassId) (dI : Nat → Nat → Nat) (cI cL cS : ClassId) (ext : Nat → Nat) (X : Nat → Nat × (Nat → Int32)) (d : Nat) (M : rM) (as : List Value) (σ : rS) (v : Option Value) (σ1 : rS) : Prop :=
  Met l M.2.1 (cWs M) (cRm d σ σ1) (cPc B dC dI cI cL cS ext X as σ) (cQc B dC dI cI cL cS ext v σ1) (σ1.1.length - σ.1.length) (rSl σ1.1 - rSl σ.1) (fun q => B ≤ q)
theorem cPc_blind {B : Nat} {dC : Nat → ClassId} {dI : Nat → Nat → Nat} {cI cL cS : ClassId} {ext : Nat → Nat} {X : Nat → Nat × (Nat → Int32)} {as : List Value} {σ : rS} : FrameBlind (cPc B dC dI cI cL cS ext X as σ) := fun a U g mk q => by
  obtain ⟨q0, q1, q2, q3, q4⟩ := q
  exact ⟨q0, q1, q2, Cx.moved (u := U) (U := U.calling g mk a) (Vm.Alike.refl U.vm) rfl q3, Cn.same (s := U) (U := U.calling g mk a) rfl q4⟩
theorem gd_in {ws : List Cond} (hm : ∀ w ∈ ws, w ∈ lw_gd) : GoodIn lw_gd ws := fun w hw => ⟨hm w hw, good_of_word (gd_of (hm w hw))⟩
/-- what a point of a method's run comes to -/
def Wk (l : Launch) (B : Nat) (dC : Nat → ClassId) (dI : Nat → Nat → Nat) (cI cL cS : ClassId) (ext : Nat → Nat) (X : Nat → Nat × (Nat → Int32)) (d : Nat) (M : rM) (pc : Nat) (L st : List Value) (σ : rS) (v : Option Value) (σ1 : rS) : Prop :=
  ∀ (p : Program) (e : Env) (R : Room) (s : State) (m : MethodId) (args : Array Value) (below : List Frame) (meth : Method) (c : Code) (H : Heap) (locs : List Loc) (cells slots : Nat) (Q : State → Prop) (ls : Array Slot) (y z : Nat),
    p.tables.exec = Jvm.exec → c.code = M.2.2.1 → c.maxLocals = L.length → (∀ w ∈ lw_gd, w.before args s = true) → s.vm.findClass (rNm M.1) = some m.cls → (M.2.1.name = "<init>" → meth.name = "<init>") → Cx B dC dI cI cL cS ext X s → Cn s → d ≤ R.frames → 40 * d ≤ R.locals →
    LOC B ext ls L → va_P (dC, dI) vwCl (rWd B cI cL cS σ) H → va_S (fun q => B ≤ q) s.heap H locs → s.heap.size = B + y → cells + y = σ.1.length → slots + z = rSl σ.1 → σ1.1.length ≤ R.cells + y → rSl σ1.1 ≤ R.slots + z →
    (∀ (pc' len' : Nat) (i : Jvm.ClassFile.Instr) (st' : List Value) (ls' : Array Slot) (H' : Heap) (locs' : List Loc) (cells' slots' : Nat), decode M.2.2.1 pc' = .ok (i, len') → rLq i len' = true → rRt M i st' = some v → va_P (dC, dI) vwCl (rWd B cI cL cS σ1) H' → va_S (fun q => B ≤ q) s.heap H' locs' → cells' + y = σ1.1.length → slots' + z = rSl σ1.1 → W p l e R s m args below meth c H' locs' cells' slots' Q (F0 m pc' ls' (List.map (cv B ext) st'))) →
    W p l e R s m args below meth c H locs cells slots Q (F0 m pc ls (List.map (cv B ext) st))
