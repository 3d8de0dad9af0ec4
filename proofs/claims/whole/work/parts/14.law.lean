/-! FROM THE STATEMENT'S START to the abstract machine's -/
def rTb (j : Nat) : List Int32 := match j with
  | 0 => [0, 1, 0, 0, 0, 0, 0]
  | 1 => [99, 99, 1, 9, 9, 9, 6]
  | 2 => [-1, 0, 0, 2, 1, 3, 0, 4]
  | 3 => [1, 10, 11, 2, 20, 0, 0, 0, 0, 30, 0, 0, 0, 41, 40, 0, 0, 0, 50, 0, 0, 0, 0, 60, 70, 0, 0, 0, 0, 80, 0, 81]
  | _ => []
/-- the rows outside: the class's constants, the script -/
def rX (L : Nat) (xs : Nat → Int32) (j : Nat) : Nat × (Nat → Int32) := if j = 4 then (L, xs) else ((rTb j).length, fun q => (rTb j).getD q 0)
set_option maxRecDepth 20000 in
theorem st_0 {b : Nat} {s : State} {A : Nat → Prop} (hA : ∀ a : Nat, a < s.heap.size → ¬ A a) (hgv : (Jvm.Cond.and given_1 narrow_1).before #[Value.ref b] s = true) (L : Nat) (xs : Nat → Int32) : ∃ t : Nat, (Term.static (stC 0) (stN 0) "[I").eval #[Value.ref b] s none [] s = some (.ref t) ∧ va_T .int t (rX L xs 0).1 (fun q => .int ((rX L xs 0).2 q)) A s s.heap := by
  have hs := flat_of_before _ hgv
  refine va_Tof (tm := (.static "RiverHand$River" "LEAST_OF" "[I")) (N := 7) (by decide) (hs (.arrayOf (.static "RiverHand$River" "LEAST_OF" "[I") .int) (by decide +kernel)) (va_eqt (hs (.eq (.length (.static "RiverHand$River" "LEAST_OF" "[I")) (.int 7)) (by decide +kernel))) (fun j hj => ?_) hA
  match j, hj with
  | 0, _ => exact va_eqt (hs (.eq (.elem (.static "RiverHand$River" "LEAST_OF" "[I") (.int 0)) (.int 0)) (by decide +kernel))
  | 1, _ => exact va_eqt (hs (.eq (.elem (.static "RiverHand$River" "LEAST_OF" "[I") (.int 1)) (.int 1)) (by decide +kernel))
  | 2, _ => exact va_eqt (hs (.eq (.elem (.static "RiverHand$River" "LEAST_OF" "[I") (.int 2)) (.int 0)) (by decide +kernel))
  | 3, _ => exact va_eqt (hs (.eq (.elem (.static "RiverHand$River" "LEAST_OF" "[I") (.int 3)) (.int 0)) (by decide +kernel))
  | 4, _ => exact va_eqt (hs (.eq (.elem (.static "RiverHand$River" "LEAST_OF" "[I") (.int 4)) (.int 0)) (by decide +kernel))
  | 5, _ => exact va_eqt (hs (.eq (.elem (.static "RiverHand$River" "LEAST_OF" "[I") (.int 5)) (.int 0)) (by decide +kernel))
  | 6, _ => exact va_eqt (hs (.eq (.elem (.static "RiverHand$River" "LEAST_OF" "[I") (.int 6)) (.int 0)) (by decide +kernel))
  | n + 7, h => exact absurd h (by omega)
set_option maxRecDepth 20000 in
theorem st_1 {b : Nat} {s : State} {A : Nat → Prop} (hA : ∀ a : Nat, a < s.heap.size → ¬ A a) (hgv : (Jvm.Cond.and given_1 narrow_1).before #[Value.ref b] s = true) (L : Nat) (xs : Nat → Int32) : ∃ t : Nat, (Term.static (stC 1) (stN 1) "[I").eval #[Value.ref b] s none [] s = some (.ref t) ∧ va_T .int t (rX L xs 1).1 (fun q => .int ((rX L xs 1).2 q)) A s s.heap := by
  have hs := flat_of_before _ hgv
  refine va_Tof (tm := (.static "RiverHand$River" "MOST_OF" "[I")) (N := 7) (by decide) (hs (.arrayOf (.static "RiverHand$River" "MOST_OF" "[I") .int) (by decide +kernel)) (va_eqt (hs (.eq (.length (.static "RiverHand$River" "MOST_OF" "[I")) (.int 7)) (by decide +kernel))) (fun j hj => ?_) hA
  match j, hj with
  | 0, _ => exact va_eqt (hs (.eq (.elem (.static "RiverHand$River" "MOST_OF" "[I") (.int 0)) (.int 99)) (by decide +kernel))
  | 1, _ => exact va_eqt (hs (.eq (.elem (.static "RiverHand$River" "MOST_OF" "[I") (.int 1)) (.int 99)) (by decide +kernel))
  | 2, _ => exact va_eqt (hs (.eq (.elem (.static "RiverHand$River" "MOST_OF" "[I") (.int 2)) (.int 1)) (by decide +kernel))
  | 3, _ => exact va_eqt (hs (.eq (.elem (.static "RiverHand$River" "MOST_OF" "[I") (.int 3)) (.int 9)) (by decide +kernel))
  | 4, _ => exact va_eqt (hs (.eq (.elem (.static "RiverHand$River" "MOST_OF" "[I") (.int 4)) (.int 9)) (by decide +kernel))
  | 5, _ => exact va_eqt (hs (.eq (.elem (.static "RiverHand$River" "MOST_OF" "[I") (.int 5)) (.int 9)) (by decide +kernel))
  | 6, _ => exact va_eqt (hs (.eq (.elem (.static "RiverHand$River" "MOST_OF" "[I") (.int 6)) (.int 6)) (by decide +kernel))
  | n + 7, h => exact absurd h (by omega)
set_option maxRecDepth 20000 in
theorem st_2 {b : Nat} {s : State} {A : Nat → Prop} (hA : ∀ a : Nat, a < s.heap.size → ¬ A a) (hgv : (Jvm.Cond.and given_1 narrow_1).before #[Value.ref b] s = true) (L : Nat) (xs : Nat → Int32) : ∃ t : Nat, (Term.static (stC 2) (stN 2) "[I").eval #[Value.ref b] s none [] s = some (.ref t) ∧ va_T .int t (rX L xs 2).1 (fun q => .int ((rX L xs 2).2 q)) A s s.heap := by
  have hs := flat_of_before _ hgv
  refine va_Tof (tm := (.static "RiverHand$Steps" "ABOVE" "[I")) (N := 8) (by decide) (hs (.arrayOf (.static "RiverHand$Steps" "ABOVE" "[I") .int) (by decide +kernel)) (va_eqt (hs (.eq (.length (.static "RiverHand$Steps" "ABOVE" "[I")) (.int 8)) (by decide +kernel))) (fun j hj => ?_) hA
  match j, hj with
  | 0, _ => exact va_eqt (hs (.eq (.elem (.static "RiverHand$Steps" "ABOVE" "[I") (.int 0)) (.int (-1))) (by decide +kernel))
  | 1, _ => exact va_eqt (hs (.eq (.elem (.static "RiverHand$Steps" "ABOVE" "[I") (.int 1)) (.int 0)) (by decide +kernel))
  | 2, _ => exact va_eqt (hs (.eq (.elem (.static "RiverHand$Steps" "ABOVE" "[I") (.int 2)) (.int 0)) (by decide +kernel))
  | 3, _ => exact va_eqt (hs (.eq (.elem (.static "RiverHand$Steps" "ABOVE" "[I") (.int 3)) (.int 2)) (by decide +kernel))
  | 4, _ => exact va_eqt (hs (.eq (.elem (.static "RiverHand$Steps" "ABOVE" "[I") (.int 4)) (.int 1)) (by decide +kernel))
  | 5, _ => exact va_eqt (hs (.eq (.elem (.static "RiverHand$Steps" "ABOVE" "[I") (.int 5)) (.int 3)) (by decide +kernel))
  | 6, _ => exact va_eqt (hs (.eq (.elem (.static "RiverHand$Steps" "ABOVE" "[I") (.int 6)) (.int 0)) (by decide +kernel))
  | 7, _ => exact va_eqt (hs (.eq (.elem (.static "RiverHand$Steps" "ABOVE" "[I") (.int 7)) (.int 4)) (by decide +kernel))
  | n + 8, h => exact absurd h (by omega)
set_option maxRecDepth 20000 in
theorem st_3 {b : Nat} {s : State} {A : Nat → Prop} (hA : ∀ a : Nat, a < s.heap.size → ¬ A a) (hgv : (Jvm.Cond.and given_1 narrow_1).before #[Value.ref b] s = true) (L : Nat) (xs : Nat → Int32) : ∃ t : Nat, (Term.static (stC 3) (stN 3) "[I").eval #[Value.ref b] s none [] s = some (.ref t) ∧ va_T .int t (rX L xs 3).1 (fun q => .int ((rX L xs 3).2 q)) A s s.heap := by
  have hs := flat_of_before _ hgv
  refine va_Tof (tm := (.static "RiverHand$Steps" "OWN" "[I")) (N := 32) (by decide) (hs (.arrayOf (.static "RiverHand$Steps" "OWN" "[I") .int) (by decide +kernel)) (va_eqt (hs (.eq (.length (.static "RiverHand$Steps" "OWN" "[I")) (.int 32)) (by decide +kernel))) (fun j hj => ?_) hA
  match j, hj with
  | 0, _ => exact va_eqt (hs (.eq (.elem (.static "RiverHand$Steps" "OWN" "[I") (.int 0)) (.int 1)) (by decide +kernel))
  | 1, _ => exact va_eqt (hs (.eq (.elem (.static "RiverHand$Steps" "OWN" "[I") (.int 1)) (.int 10)) (by decide +kernel))
  | 2, _ => exact va_eqt (hs (.eq (.elem (.static "RiverHand$Steps" "OWN" "[I") (.int 2)) (.int 11)) (by decide +kernel))
  | 3, _ => exact va_eqt (hs (.eq (.elem (.static "RiverHand$Steps" "OWN" "[I") (.int 3)) (.int 2)) (by decide +kernel))
  | 4, _ => exact va_eqt (hs (.eq (.elem (.static "RiverHand$Steps" "OWN" "[I") (.int 4)) (.int 20)) (by decide +kernel))
  | 5, _ => exact va_eqt (hs (.eq (.elem (.static "RiverHand$Steps" "OWN" "[I") (.int 5)) (.int 0)) (by decide +kernel))
  | 6, _ => exact va_eqt (hs (.eq (.elem (.static "RiverHand$Steps" "OWN" "[I") (.int 6)) (.int 0)) (by decide +kernel))
  | 7, _ => exact va_eqt (hs (.eq (.elem (.static "RiverHand$Steps" "OWN" "[I") (.int 7)) (.int 0)) (by decide +kernel))
  | 8, _ => exact va_eqt (hs (.eq (.elem (.static "RiverHand$Steps" "OWN" "[I") (.int 8)) (.int 0)) (by decide +kernel))
  | 9, _ => exact va_eqt (hs (.eq (.elem (.static "RiverHand$Steps" "OWN" "[I") (.int 9)) (.int 30)) (by decide +kernel))
  | 10, _ => exact va_eqt (hs (.eq (.elem (.static "RiverHand$Steps" "OWN" "[I") (.int 10)) (.int 0)) (by decide +kernel))
  | 11, _ => exact va_eqt (hs (.eq (.elem (.static "RiverHand$Steps" "OWN" "[I") (.int 11)) (.int 0)) (by decide +kernel))
  | 12, _ => exact va_eqt (hs (.eq (.elem (.static "RiverHand$Steps" "OWN" "[I") (.int 12)) (.int 0)) (by decide +kernel))
  | 13, _ => exact va_eqt (hs (.eq (.elem (.static "RiverHand$Steps" "OWN" "[I") (.int 13)) (.int 41)) (by decide +kernel))
  | 14, _ => exact va_eqt (hs (.eq (.elem (.static "RiverHand$Steps" "OWN" "[I") (.int 14)) (.int 40)) (by decide +kernel))
  | 15, _ => exact va_eqt (hs (.eq (.elem (.static "RiverHand$Steps" "OWN" "[I") (.int 15)) (.int 0)) (by decide +kernel))
  | 16, _ => exact va_eqt (hs (.eq (.elem (.static "RiverHand$Steps" "OWN" "[I") (.int 16)) (.int 0)) (by decide +kernel))
  | 17, _ => exact va_eqt (hs (.eq (.elem (.static "RiverHand$Steps" "OWN" "[I") (.int 17)) (.int 0)) (by decide +kernel))
  | 18, _ => exact va_eqt (hs (.eq (.elem (.static "RiverHand$Steps" "OWN" "[I") (.int 18)) (.int 50)) (by decide +kernel))
  | 19, _ => exact va_eqt (hs (.eq (.elem (.static "RiverHand$Steps" "OWN" "[I") (.int 19)) (.int 0)) (by decide +kernel))
  | 20, _ => exact va_eqt (hs (.eq (.elem (.static "RiverHand$Steps" "OWN" "[I") (.int 20)) (.int 0)) (by decide +kernel))
  | 21, _ => exact va_eqt (hs (.eq (.elem (.static "RiverHand$Steps" "OWN" "[I") (.int 21)) (.int 0)) (by decide +kernel))
  | 22, _ => exact va_eqt (hs (.eq (.elem (.static "RiverHand$Steps" "OWN" "[I") (.int 22)) (.int 0)) (by decide +kernel))
  | 23, _ => exact va_eqt (hs (.eq (.elem (.static "RiverHand$Steps" "OWN" "[I") (.int 23)) (.int 60)) (by decide +kernel))
  | 24, _ => exact va_eqt (hs (.eq (.elem (.static "RiverHand$Steps" "OWN" "[I") (.int 24)) (.int 70)) (by decide +kernel))
  | 25, _ => exact va_eqt (hs (.eq (.elem (.static "RiverHand$Steps" "OWN" "[I") (.int 25)) (.int 0)) (by decide +kernel))
  | 26, _ => exact va_eqt (hs (.eq (.elem (.static "RiverHand$Steps" "OWN" "[I") (.int 26)) (.int 0)) (by decide +kernel))
  | 27, _ => exact va_eqt (hs (.eq (.elem (.static "RiverHand$Steps" "OWN" "[I") (.int 27)) (.int 0)) (by decide +kernel))
  | 28, _ => exact va_eqt (hs (.eq (.elem (.static "RiverHand$Steps" "OWN" "[I") (.int 28)) (.int 0)) (by decide +kernel))
  | 29, _ => exact va_eqt (hs (.eq (.elem (.static "RiverHand$Steps" "OWN" "[I") (.int 29)) (.int 80)) (by decide +kernel))
  | 30, _ => exact va_eqt (hs (.eq (.elem (.static "RiverHand$Steps" "OWN" "[I") (.int 30)) (.int 0)) (by decide +kernel))
  | 31, _ => exact va_eqt (hs (.eq (.elem (.static "RiverHand$Steps" "OWN" "[I") (.int 31)) (.int 81)) (by decide +kernel))
  | n + 32, h => exact absurd h (by omega)
theorem ok_inst (k : Nat) (q : vw_C) (h : vwCl[k]? = some q) : ∃ n, Cond.instantiable q.1 n ∈ lw_tbl := by
  match k, h with
  | 0, h => cases h; exact ⟨6, List.mem_of_getElem? (i := 174) (by decide +kernel)⟩
  | 1, h => cases h; exact ⟨3, List.mem_of_getElem? (i := 141) (by decide +kernel)⟩
  | 2, h => cases h; exact ⟨4, List.mem_of_getElem? (i := 135) (by decide +kernel)⟩
  | 3, h => cases h; exact ⟨9, List.mem_of_getElem? (i := 87) (by decide +kernel)⟩
  | 4, h => cases h; exact ⟨5, List.mem_of_getElem? (i := 224) (by decide +kernel)⟩
  | 5, h => cases h; exact ⟨4, List.mem_of_getElem? (i := 201) (by decide +kernel)⟩
  | 6, h => cases h; exact ⟨12, List.mem_of_getElem? (i := 79) (by decide +kernel)⟩
  | 7, h => cases h; exact ⟨42, List.mem_of_getElem? (i := 784) (by decide +kernel)⟩
  | n + 8, h => simp [vwCl] at h
theorem ok_ls0 : Cond.laysStatic "RiverHand$River" "LEAST_OF" "[I" ∈ lw_tbl := List.mem_of_getElem? (i := 294) (by decide +kernel)
theorem ok_li0 : Cond.initialized "RiverHand$River" ∈ lw_tbl := List.mem_of_getElem? (i := 68) (by decide +kernel)
theorem ok_ls1 : Cond.laysStatic "RiverHand$River" "MOST_OF" "[I" ∈ lw_tbl := List.mem_of_getElem? (i := 296) (by decide +kernel)
theorem ok_li1 : Cond.initialized "RiverHand$River" ∈ lw_tbl := List.mem_of_getElem? (i := 68) (by decide +kernel)
theorem ok_ls2 : Cond.laysStatic "RiverHand$Steps" "ABOVE" "[I" ∈ lw_tbl := List.mem_of_getElem? (i := 706) (by decide +kernel)
theorem ok_li2 : Cond.initialized "RiverHand$Steps" ∈ lw_tbl := List.mem_of_getElem? (i := 72) (by decide +kernel)
theorem ok_ls3 : Cond.laysStatic "RiverHand$Steps" "OWN" "[I" ∈ lw_tbl := List.mem_of_getElem? (i := 704) (by decide +kernel)
theorem ok_li3 : Cond.initialized "RiverHand$Steps" ∈ lw_tbl := List.mem_of_getElem? (i := 72) (by decide +kernel)
/-! THE CLAIM OUT OF ONE WALK OF THE LAW'S BODY. Your part is whole_start (and what it stands on); all else here is the same for every law, but numbers. -/
def R_law : String := "RiverHandLaw"
def lw_P (b : Addr) (xs : List Int32) (args : Array Value) (s : State) : Prop := args = #[.ref b] ∧ s.IntsAt b xs ∧ xs.length ≤ 3072 ∧ (Jvm.Cond.and given_1 narrow_1).before args s = true
def lw_Q (_ : Array Value) (s : State) (o : Outcome) (t : State) : Prop := o = .returned (some (.int 1)) ∧ Framed s o t [] 600000 7302250
def lw_Z (below : List Frame) (a : Array Value) (s : State) : State → Prop := fun t => ∃ o, t.status = .running ∧ Ended t below o ∧ lw_Q a s o t
/-- the law's own end, with 1 on the stack, nothing written that was there before, its room as the claim has it -/
theorem lw_ret {p : Program} {l : Launch} {e : Env} {s : State} {m : MethodId} {below : List Frame} {meth : Method} {c : Code} {b : Nat} (hx : p.tables.exec = Jvm.exec) (hb : c.code = code) (hr : meth.sig.returnType = ret) (hlocks : meth.locks = false) {pc : Nat} {H : Heap} {ls : Array Slot} (hdg : decode code pc = .ok (.ireturn, 1)) : W p l e room_1 s m #[Value.ref b] below meth c H [] 600000 7302250 (lw_Z below #[Value.ref b] s) (F0 m pc ls [.int 1]) := by
  intro T hT X
  obtain ⟨fs, hret, hrun, hended, hW, hframe⟩ := X.leave (v := some (.int 1)) (hlocks := hlocks) (fun h => by rw [hr] at h; cases h)
  have hmeth' : T.vm.method? m = some meth := X.method'
  refine ⟨T.setFrames fs, ?_, .returned (some (.int 1)), hrun, hended, rfl, ⟨_, rfl⟩, hW, hframe⟩
  jvm_step X.here [X.here.top, hx, hb, hdg, hmeth', hr, ret, narrow_b1]
  (try refine ⟨rfl, ?_⟩); (try refine ⟨rfl, ?_⟩)
  first | (intro acts; rw [hret _ acts rfl rfl rfl]) | rw [hret _ _ rfl rfl rfl]
  exact Steps.refl _
/-- what holds at the law's entry: the machine, the code, the tables' words (any of lw_tbl by 'hts w (by decide +kernel)'), the script of L ints xs at the cell b, what the Statement gives of the start (any of its parts by flat_of_before) -/
def lw_At (p : Program) (s : State) (m : MethodId) (meth : Method) (c : Code) (b L : Nat) (xs : Nat → Int32) : Prop :=
  p.tables.exec = Jvm.exec ∧ c.code = code ∧ meth.sig.returnType = ret ∧ c.maxLocals = 4 ∧ s.vm.findClass R_law = some m.cls ∧ (∀ w ∈ lw_tbl, w.before #[Value.ref b] s = true) ∧ va_X b L xs s s.heap ∧ b < s.heap.size ∧ meth.locks = false ∧ (Jvm.Cond.and given_1 narrow_1).before #[Value.ref b] s = true

/-- what the whole stands on: the abstract machine, run on the law, answers 1 within the room -/
def LawOk : Prop := ∀ (L : Nat) (xs : Nat → Int32), L ≤ 3072 → Ex (rX L xs) 200 mL_law 0 [.retAddr 4, rU, rU, rU] [] ([], fun _ _ => 0, fun _ _ => 0, fun _ _ => none) (fun v σ => v = some (.int 1) ∧ σ.1.length ≤ 600000 ∧ rSl σ.1 ≤ 7302250)
theorem cx_start {b L : Nat} {s : State} {xs : Nat → Int32} (hL : L ≤ 3072) (hts : ∀ w ∈ lw_tbl, w.before #[Value.ref b] s = true) (hX : va_X b L xs s s.heap) (hbl : b < s.heap.size) (hgv : (Jvm.Cond.and given_1 narrow_1).before #[Value.ref b] s = true) :
    ∃ (dC : Nat → ClassId) (dI : Nat → Nat → Nat) (cI cL cS : ClassId) (ext : Nat → Nat), ext 4 = b ∧ Cx s.heap.size dC dI cI cL cS ext (rX L xs) s := by
  have hA : ∀ a : Nat, a < s.heap.size → ¬ (fun q => s.heap.size ≤ q) a := fun a h q => by
    have q1 : s.heap.size ≤ a := q
    omega
  have h1 : ∀ k : Nat, ∃ q : ClassId × (Nat → Nat), ∀ r : vw_C, vwCl[k]? = some r → u_Kn s r.1 r.2.1 r.2.2 q.1 q.2 := by
    intro k
    cases hk : vwCl[k]? with
    | none => exact ⟨(0, id), fun r hr => by cases hr⟩
    | some r =>
      obtain ⟨n, hn⟩ := ok_inst k r hk
      obtain ⟨cC, iS, hKn⟩ := u_known (C := r.1) (T := r.2.1) (N := r.2.2) hts (okK_all k r hk).1 (hts _ hn)
      exact ⟨(cC, iS), fun r2 hr => by cases hr; exact hKn⟩
  obtain ⟨fD, hD⟩ := Classical.axiomOfChoice h1
  obtain ⟨cI, kI, pI, i1, i2, i3⟩ := Cond.arrayClass_spec (hts _ ok_aI)
  obtain ⟨cL, kL, pL, j1, j2, j3⟩ := Cond.arrayClass_spec (hts _ ok_aL)
  obtain ⟨pS, cS, kS, k1, -, k3, k4, k5⟩ := Cond.arrayOver_spec (hts _ ok_aS)
  obtain ⟨t0, e0, f0⟩ := st_0 hA hgv L xs
  obtain ⟨t1, e1, f1⟩ := st_1 hA hgv L xs
  obtain ⟨t2, e2, f2⟩ := st_2 hA hgv L xs
  obtain ⟨t3, e3, f3⟩ := st_3 hA hgv L xs
  refine ⟨fun k => (fD k).1, fun k => (fD k).2, cI, cL, cS, fun j => match j with
    | 0 => t0
    | 1 => t1
    | 2 => t2
    | 3 => t3
    | _ => b, rfl, ⟨fun k r hr => hD k r hr, ?_⟩, ?_, ?_⟩
  · intro k q hq
    match k, hq with
    | 0, hq =>
      cases hq
      exact ⟨fun n z => ⟨fun k h => (by cases h), kI, i2, pI, i3⟩, i1⟩
    | 1, hq =>
      cases hq
      exact ⟨fun n z => ⟨fun k h => (by cases h), kL, j2, pL, j3⟩, j1⟩
    | 2, hq =>
      cases hq
      exact ⟨fun n z => ⟨fun k h => (by cases h), kS, k3, pS, k4⟩, kS, pS, k3, k4, k1, k5⟩
    | n + 3, hq => simp at hq
  · intro j hj
    match j, hj with
    | 0, _ => exact va_Zref (hts _ ok_ls0) (hts _ ok_li0) e0 hA
    | 1, _ => exact va_Zref (hts _ ok_ls1) (hts _ ok_li1) e1 hA
    | 2, _ => exact va_Zref (hts _ ok_ls2) (hts _ ok_li2) e2 hA
    | 3, _ => exact va_Zref (hts _ ok_ls3) (hts _ ok_li3) e3 hA
    | n + 4, h => exact absurd h (by omega)
  · intro j hj
    match j, hj with
    | 0, _ => exact f0
    | 1, _ => exact f1
    | 2, _ => exact f2
    | 3, _ => exact f3
    | 4, _ =>
      obtain ⟨scr, g1, g2, g3, g4, g5⟩ := hX
      exact ⟨scr, g1, g2, g3, Nat.le_of_eq g4.symm, by rw [g4]; rfl, g5, hA b hbl⟩
    | n + 5, h => exact absurd h (by omega)
set_option maxHeartbeats 4000000 in
theorem whole_open (hok : LawOk) {p : Program} {e : Env} {s : State} {m : MethodId} {below : List Frame} {meth : Method} {c : Code} (l : Launch) {b L : Nat} {xs : Nat → Int32} (hL : L ≤ 3072) (C0 : lw_At p s m meth c b L xs) : W p l e room_1 s m #[Value.ref b] below meth c s.heap [] 0 0 (lw_Z below #[Value.ref b] s) (entryFrame m ([Value.ref b] : List Value).toArray 4) := by
  obtain ⟨hx, hb, hr, hml, hown, hts, hX, hbl, hlocks, hgv⟩ := C0
  obtain ⟨dC, dI, cI, cL, cS, ext, hext, hC⟩ := cx_start hL hts hX hbl hgv
  obtain ⟨n, v, σ1, hrun, rfl, hc1, hs1⟩ := hok L xs hL
  have hl := loc_entry s.heap.size ext [.retAddr 4] (n := 4) (by decide)
  have hb4 : ([Value.ref b] : List Value) = List.map (cv s.heap.size ext) [.retAddr 4] := by rw [← hext]; rfl
  have hfr : entryFrame m ([Value.ref b] : List Value).toArray 4 = F0 m 0 ((lg_sl (List.map (cv s.heap.size ext) [.retAddr 4]) ++ List.replicate (4 - (lg_sl (List.map (cv s.heap.size ext) [.retAddr 4])).length) Slot.unset).toArray) [] := by
    rw [hb4, lg_entry_eq]
  refine W.eq hfr ?_
  refine w_main l s.heap.size dC dI cI cL cS ext (rX L xs) n 200 mL_law 0 _ [] _ _ σ1 okmL_law hrun p e room_1 s m #[Value.ref b] below meth c s.heap [] 0 0 _ _ 0 0 hx hb hml (fun w hw => hts w (List.mem_filter.mp hw).1) hown (fun h => absurd h (by decide)) hC ⟨va_AO.of (hts _ ok_aS), fun w hw hn => ?_⟩ (by decide) (by decide) hl ?_ va_S.rf rfl rfl rfl hc1 hs1 ?_
  · cases w <;> first | (simp [isNest] at hn; done) | exact va_Nw.of rfl (hts _ hw)
  · intro k q hq
    simp [rWd] at hq
  · intro pc1 len1 i st2 ls1 H1 locs1 cells1 slots1 hdg hq hrt hP1 hS1 hcc hss
    cases i <;> simp only [rRt] at hrt
    case ireturn =>
      obtain rfl : len1 = 1 := by simpa [rLq] using hq
      split at hrt
      · rename_i x hret
        cases hret
      · rename_i x hret
        split at hrt
        · cases hrt
          exact va_forget (fun q hq1 => hS1.2.2 q hq1) (W.widen (k := 600000) (n := 7302250) (by omega) (by omega) (lw_ret hx hb hr hlocks hdg))
        · cases hrt
      · cases hrt
    case lreturn =>
      split at hrt
      · cases hrt
      · cases hrt
    case areturn =>
      split at hrt
      · cases hrt
      · cases hrt
      · cases hrt
    case return_ =>
      split at hrt
      · cases hrt
      · cases hrt
    all_goals (cases hrt)
