/-! EQUATIONS of the abstract machine, an instruction each -/
/-- an index within a row of kind κ at a -/
def rIn (T : List (Nat × Nat)) (a κ : Nat) (k : Int32) : Prop := match T[a]? with
  | some (q, n) => q = κ ∧ ¬ (k < 0 ∨ n ≤ k.toNatClampNeg)
  | none => False
section EQ
variable {X : Nat → Nat × (Nat → Int32)} {d : Nat} {M : rM} {pc len : Nat} {L st : List Value} {σ : rS} {Q : Option Value → rS → Prop}
variable {T : List (Nat × Nat)} {I : Nat → Nat → Int32} {J : Nat → Nat → Int64} {R : Nat → Nat → Option Nat} {a b k ci f t : Nat} {x y : Int32} {o : Int}
theorem q_div (h0 : rlk M.2.2.2.2.2.2 pc = some (.idiv, 1)) : Ex X d M pc L (.int y :: .int x :: st) σ Q = (¬ y = 0 ∧ Ex X d M (pc + 1) L (.int (x / y) :: st) σ Q) := by
  by_cases hy : y = 0
  · rw [ex_N h0 (by simp [rP, rI2z, hy]) rfl rfl rfl rfl]
    simp [hy]
  · rw [ex_P h0 (by simp [rP, rI2z, hy]; exact ⟨rfl, rfl⟩)]
    simp [hy]
theorem q_rem (h0 : rlk M.2.2.2.2.2.2 pc = some (.irem, 1)) : Ex X d M pc L (.int y :: .int x :: st) σ Q = (¬ y = 0 ∧ Ex X d M (pc + 1) L (.int (x - x / y * y) :: st) σ Q) := by
  by_cases hy : y = 0
  · rw [ex_N h0 (by simp [rP, rI2z, hy]) rfl rfl rfl rfl]
    simp [hy]
  · rw [ex_P h0 (by simp [rP, rI2z, hy]; exact ⟨rfl, rfl⟩)]
    simp [hy]
theorem q_icmp {c : Jvm.ClassFile.Cond} (h0 : rlk M.2.2.2.2.2.2 pc = some (.if_icmp c o, 3)) (ht : rTo ((pc : Int) + o) = some t) : Ex X d M pc L (.int y :: .int x :: st) σ Q = if rCnd c x y = true then Ex X d M t L st σ Q else Ex X d M (pc + 3) L st σ Q := by
  rw [ex_B h0 rfl (pc1 := if rCnd c x y = true then t else pc + 3) (st1 := st) (by simp only [rB, ht])]
  split <;> rfl
theorem q_icmp_eq (h0 : rlk M.2.2.2.2.2.2 pc = some (.if_icmp .eq o, 3)) (ht : rTo ((pc : Int) + o) = some t) : Ex X d M pc L (.int y :: .int x :: st) σ Q = if x = y then Ex X d M t L st σ Q else Ex X d M (pc + 3) L st σ Q := by
  rw [q_icmp h0 ht]; simp [rCnd]
theorem q_icmp_ne (h0 : rlk M.2.2.2.2.2.2 pc = some (.if_icmp .ne o, 3)) (ht : rTo ((pc : Int) + o) = some t) : Ex X d M pc L (.int y :: .int x :: st) σ Q = if x = y then Ex X d M (pc + 3) L st σ Q else Ex X d M t L st σ Q := by
  rw [q_icmp h0 ht]
  by_cases h : x = y <;> simp [rCnd, h]
theorem q_icmp_lt (h0 : rlk M.2.2.2.2.2.2 pc = some (.if_icmp .lt o, 3)) (ht : rTo ((pc : Int) + o) = some t) : Ex X d M pc L (.int y :: .int x :: st) σ Q = if x < y then Ex X d M t L st σ Q else Ex X d M (pc + 3) L st σ Q := by
  rw [q_icmp h0 ht]; simp only [rCnd, decide_eq_true_eq]
theorem q_icmp_ge (h0 : rlk M.2.2.2.2.2.2 pc = some (.if_icmp .ge o, 3)) (ht : rTo ((pc : Int) + o) = some t) : Ex X d M pc L (.int y :: .int x :: st) σ Q = if y ≤ x then Ex X d M t L st σ Q else Ex X d M (pc + 3) L st σ Q := by
  rw [q_icmp h0 ht]; simp only [rCnd, decide_eq_true_eq]
theorem q_icmp_gt (h0 : rlk M.2.2.2.2.2.2 pc = some (.if_icmp .gt o, 3)) (ht : rTo ((pc : Int) + o) = some t) : Ex X d M pc L (.int y :: .int x :: st) σ Q = if y < x then Ex X d M t L st σ Q else Ex X d M (pc + 3) L st σ Q := by
  rw [q_icmp h0 ht]; simp only [rCnd, decide_eq_true_eq]
theorem q_icmp_le (h0 : rlk M.2.2.2.2.2.2 pc = some (.if_icmp .le o, 3)) (ht : rTo ((pc : Int) + o) = some t) : Ex X d M pc L (.int y :: .int x :: st) σ Q = if x ≤ y then Ex X d M t L st σ Q else Ex X d M (pc + 3) L st σ Q := by
  rw [q_icmp h0 ht]; simp only [rCnd, decide_eq_true_eq]
theorem q_if {c : Jvm.ClassFile.Cond} (h0 : rlk M.2.2.2.2.2.2 pc = some (.ifCond c o, 3)) (ht : rTo ((pc : Int) + o) = some t) : Ex X d M pc L (.int x :: st) σ Q = if rCnd c x 0 = true then Ex X d M t L st σ Q else Ex X d M (pc + 3) L st σ Q := by
  rw [ex_B h0 rfl (pc1 := if rCnd c x 0 = true then t else pc + 3) (st1 := st) (by simp only [rB, ht])]
  split <;> rfl
theorem q_if_eq (h0 : rlk M.2.2.2.2.2.2 pc = some (.ifCond .eq o, 3)) (ht : rTo ((pc : Int) + o) = some t) : Ex X d M pc L (.int x :: st) σ Q = if x = 0 then Ex X d M t L st σ Q else Ex X d M (pc + 3) L st σ Q := by
  rw [q_if h0 ht]; simp [rCnd]
theorem q_if_ne (h0 : rlk M.2.2.2.2.2.2 pc = some (.ifCond .ne o, 3)) (ht : rTo ((pc : Int) + o) = some t) : Ex X d M pc L (.int x :: st) σ Q = if x = 0 then Ex X d M (pc + 3) L st σ Q else Ex X d M t L st σ Q := by
  rw [q_if h0 ht]
  by_cases h : x = 0 <;> simp [rCnd, h]
theorem q_if_lt (h0 : rlk M.2.2.2.2.2.2 pc = some (.ifCond .lt o, 3)) (ht : rTo ((pc : Int) + o) = some t) : Ex X d M pc L (.int x :: st) σ Q = if x < 0 then Ex X d M t L st σ Q else Ex X d M (pc + 3) L st σ Q := by
  rw [q_if h0 ht]; simp only [rCnd, decide_eq_true_eq]
theorem q_if_ge (h0 : rlk M.2.2.2.2.2.2 pc = some (.ifCond .ge o, 3)) (ht : rTo ((pc : Int) + o) = some t) : Ex X d M pc L (.int x :: st) σ Q = if 0 ≤ x then Ex X d M t L st σ Q else Ex X d M (pc + 3) L st σ Q := by
  rw [q_if h0 ht]; simp only [rCnd, decide_eq_true_eq]
theorem q_if_gt (h0 : rlk M.2.2.2.2.2.2 pc = some (.ifCond .gt o, 3)) (ht : rTo ((pc : Int) + o) = some t) : Ex X d M pc L (.int x :: st) σ Q = if 0 < x then Ex X d M t L st σ Q else Ex X d M (pc + 3) L st σ Q := by
  rw [q_if h0 ht]; simp only [rCnd, decide_eq_true_eq]
theorem q_if_le (h0 : rlk M.2.2.2.2.2.2 pc = some (.ifCond .le o, 3)) (ht : rTo ((pc : Int) + o) = some t) : Ex X d M pc L (.int x :: st) σ Q = if x ≤ 0 then Ex X d M t L st σ Q else Ex X d M (pc + 3) L st σ Q := by
  rw [q_if h0 ht]; simp only [rCnd, decide_eq_true_eq]
theorem q_goto (h0 : rlk M.2.2.2.2.2.2 pc = some (.goto o, 3)) (ht : rTo ((pc : Int) + o) = some t) : Ex X d M pc L st σ Q = Ex X d M t L st σ Q :=
  ex_B h0 rfl (by simp only [rB, ht])
theorem q_getI {κ : Nat} (h0 : rlk M.2.2.2.2.2.2 pc = some (.getfield k, 3)) (h1 : rA (rFT M.1) k = some (ci, f)) (h2 : (rFK ci)[f]? = some κ) (h3 : ¬ κ = 2) : Ex X d M pc L (.ref a :: st) (T, I, J, R) Q = (T[a]? = some (3, ci) ∧ Ex X d M (pc + 3) L (.int (I a f) :: st) (T, I, J, R) Q) := by
  by_cases hT : T[a]? = some (3, ci)
  · rw [ex_H h0 rfl rfl (st1 := .int (I a f) :: st) (σ1 := (T, I, J, R)) ?_]
    · simp [hT]
    · simp only [rH, h1, hT, if_true, h2]
      split
      · rename_i h4
        exact absurd (Option.some.inj h4) h3
      · rfl
      · rename_i h4
        cases h4
  · rw [ex_N h0 rfl rfl ?_ rfl rfl]
    · simp [hT]
    · simp only [rH, h1, hT, if_false]
theorem q_getR (h0 : rlk M.2.2.2.2.2.2 pc = some (.getfield k, 3)) (h1 : rA (rFT M.1) k = some (ci, f)) (h2 : (rFK ci)[f]? = some 2) : Ex X d M pc L (.ref a :: st) (T, I, J, R) Q = (T[a]? = some (3, ci) ∧ Ex X d M (pc + 3) L (va_rf (R a f) :: st) (T, I, J, R) Q) := by
  by_cases hT : T[a]? = some (3, ci)
  · rw [ex_H h0 rfl rfl (st1 := va_rf (R a f) :: st) (σ1 := (T, I, J, R)) ?_]
    · simp [hT]
    · simp only [rH, h1, hT, if_true, h2]
  · rw [ex_N h0 rfl rfl ?_ rfl rfl]
    · simp [hT]
    · simp only [rH, h1, hT, if_false]
theorem q_putI (h0 : rlk M.2.2.2.2.2.2 pc = some (.putfield k, 3)) (h1 : rA (rFT M.1) k = some (ci, f)) (h2 : (rFK ci)[f]? = some 0) (h3 : rPut M ci f = true) : Ex X d M pc L (.int x :: .ref a :: st) (T, I, J, R) Q = (T[a]? = some (3, ci) ∧ Ex X d M (pc + 3) L st (T, va_up I a (va_up (I a) f x), J, R) Q) := by
  by_cases hT : T[a]? = some (3, ci)
  · rw [ex_H h0 rfl rfl (st1 := st) (σ1 := (T, va_up I a (va_up (I a) f x), J, R)) ?_]
    · simp [hT]
    · simp [rH, h1, hT, h2, h3]
  · rw [ex_N h0 rfl rfl ?_ rfl rfl]
    · simp [hT]
    · simp [rH, h1, hT]
theorem q_putZ (h0 : rlk M.2.2.2.2.2.2 pc = some (.putfield k, 3)) (h1 : rA (rFT M.1) k = some (ci, f)) (h2 : (rFK ci)[f]? = some 1) (h3 : rPut M ci f = true) : Ex X d M pc L (.int x :: .ref a :: st) (T, I, J, R) Q = (T[a]? = some (3, ci) ∧ (x = 0 ∨ x = 1) ∧ Ex X d M (pc + 3) L st (T, va_up I a (va_up (I a) f x), J, R) Q) := by
  by_cases hT : T[a]? = some (3, ci) ∧ (x = 0 ∨ x = 1)
  · rw [ex_H h0 rfl rfl (st1 := st) (σ1 := (T, va_up I a (va_up (I a) f x), J, R)) ?_]
    · simp [hT]
    · simp [rH, h1, hT.1, h2, h3, hT.2]
  · rw [ex_N h0 rfl rfl ?_ rfl rfl]
    · simp only [false_eq, ← and_assoc, hT, false_and, eq_self, not_false_eq_true]
    · by_cases hT1 : T[a]? = some (3, ci)
      · simp [rH, h1, hT1, h2, h3, fun q => hT ⟨hT1, q⟩]
      · simp [rH, h1, hT1]
theorem q_putR (h0 : rlk M.2.2.2.2.2.2 pc = some (.putfield k, 3)) (h1 : rA (rFT M.1) k = some (ci, f)) (h2 : (rFK ci)[f]? = some 2) (h3 : rPut M ci f = true) : Ex X d M pc L (.ref b :: .ref a :: st) (T, I, J, R) Q = (T[a]? = some (3, ci) ∧ Ex X d M (pc + 3) L st (T, I, J, va_up R a (va_up (R a) f (some b))) Q) := by
  by_cases hT : T[a]? = some (3, ci)
  · rw [ex_H h0 rfl rfl (st1 := st) (σ1 := (T, I, J, va_up R a (va_up (R a) f (some b)))) ?_]
    · simp [hT]
    · simp [rH, h1, hT, h2, h3]
  · rw [ex_N h0 rfl rfl ?_ rfl rfl]
    · simp [hT]
    · simp [rH, h1, hT]
theorem q_gets {j : Nat} (h0 : rlk M.2.2.2.2.2.2 pc = some (.getstatic k, 3)) (h1 : rA (rST M.1) k = some j) : Ex X d M pc L st (T, I, J, R) Q = Ex X d M (pc + 3) L (.retAddr j :: st) (T, I, J, R) Q :=
  ex_H h0 rfl rfl (by simp [rH, h1])
theorem q_ldc {v : Int32} (h0 : rlk M.2.2.2.2.2.2 pc = some (.ldc k, 2)) (h1 : rA (rKI M.1) k = some v) : Ex X d M pc L st (T, I, J, R) Q = Ex X d M (pc + 2) L (.int v :: st) (T, I, J, R) Q :=
  ex_H h0 rfl rfl (by simp [rH, h1])
theorem q_ldcw {v : Int32} (h0 : rlk M.2.2.2.2.2.2 pc = some (.ldc_w k, 3)) (h1 : rA (rKI M.1) k = some v) : Ex X d M pc L st (T, I, J, R) Q = Ex X d M (pc + 3) L (.int v :: st) (T, I, J, R) Q :=
  ex_H h0 rfl rfl (by simp [rH, h1])
theorem q_ldc2 {v : Int64} (h0 : rlk M.2.2.2.2.2.2 pc = some (.ldc2_w k, 3)) (h1 : rA (rKL M.1) k = some v) : Ex X d M pc L st (T, I, J, R) Q = Ex X d M (pc + 3) L (.long v :: st) (T, I, J, R) Q :=
  ex_H h0 rfl rfl (by simp [rH, h1])
theorem rIn_cases {P : Prop} {κ : Nat} (h : rIn T a κ x → P) (h2 : ¬ rIn T a κ x → P) : P := (Classical.em _).elim h h2
theorem rIn_some {κ : Nat} (h : rIn T a κ x) : ∃ n, T[a]? = some (κ, n) ∧ ¬ (x < 0 ∨ n ≤ x.toNatClampNeg) := by
  unfold rIn at h
  split at h
  · rename_i q n hq
    obtain ⟨rfl, h2⟩ := h
    exact ⟨n, hq, h2⟩
  · exact h.elim
theorem rIn_none {κ n : Nat} (h : ¬ rIn T a κ x) (hT : T[a]? = some (κ, n)) : x < 0 ∨ n ≤ x.toNatClampNeg := by
  refine Classical.byContradiction fun q => h ?_
  unfold rIn
  rw [hT]
  exact ⟨rfl, q⟩
theorem q_iald (h0 : rlk M.2.2.2.2.2.2 pc = some (.iaload, 1)) : Ex X d M pc L (.int x :: .ref a :: st) (T, I, J, R) Q = (rIn T a 0 x ∧ Ex X d M (pc + 1) L (.int (I a x.toNatClampNeg) :: st) (T, I, J, R) Q) := by
  refine rIn_cases (T := T) (a := a) (x := x) (κ := 0) (fun h => ?_) (fun h => ?_)
  · obtain ⟨n, h1, h2⟩ := rIn_some h
    rw [ex_H h0 rfl rfl (st1 := .int (I a x.toNatClampNeg) :: st) (σ1 := (T, I, J, R)) (by simp only [rH, h1, if_neg h2])]
    simp [h]
  · rw [ex_N h0 rfl rfl ?_ rfl rfl]
    · simp [h]
    · simp only [rH]
      split
      · rename_i n hn
        rw [if_pos (rIn_none h hn)]
      · rfl
theorem q_iaxX {j : Nat} (h0 : rlk M.2.2.2.2.2.2 pc = some (.iaload, 1)) (hj : j < 5) : Ex X d M pc L (.int x :: .retAddr j :: st) (T, I, J, R) Q = (¬ (x < 0 ∨ (X j).1 ≤ x.toNatClampNeg) ∧ Ex X d M (pc + 1) L (.int ((X j).2 x.toNatClampNeg) :: st) (T, I, J, R) Q) := by
  by_cases h : x < 0 ∨ (X j).1 ≤ x.toNatClampNeg
  · rw [ex_N h0 rfl rfl ?_ rfl rfl]
    · simp [h]
    · simp only [rH]
      rw [if_pos (Or.inr h)]
  · rw [ex_H h0 rfl rfl (st1 := .int ((X j).2 x.toNatClampNeg) :: st) (σ1 := (T, I, J, R)) ?_]
    · simp [h]
    · simp only [rH]
      rw [if_neg]
      rintro (q | q)
      · exact q hj
      · exact h q
theorem q_iast {y : Int32} (h0 : rlk M.2.2.2.2.2.2 pc = some (.iastore, 1)) : Ex X d M pc L (.int y :: .int x :: .ref a :: st) (T, I, J, R) Q = (rIn T a 0 x ∧ Ex X d M (pc + 1) L st (T, va_up I a (va_up (I a) x.toNatClampNeg y), J, R) Q) := by
  refine rIn_cases (T := T) (a := a) (x := x) (κ := 0) (fun h => ?_) (fun h => ?_)
  · obtain ⟨n, h1, h2⟩ := rIn_some h
    rw [ex_H h0 rfl rfl (st1 := st) (σ1 := (T, va_up I a (va_up (I a) x.toNatClampNeg y), J, R)) (by simp only [rH, h1, if_neg h2])]
    simp [h]
  · rw [ex_N h0 rfl rfl ?_ rfl rfl]
    · simp [h]
    · simp only [rH]
      split
      · rename_i n hn
        rw [if_pos (rIn_none h hn)]
      · rfl
theorem q_lald (h0 : rlk M.2.2.2.2.2.2 pc = some (.laload, 1)) : Ex X d M pc L (.int x :: .ref a :: st) (T, I, J, R) Q = (rIn T a 1 x ∧ Ex X d M (pc + 1) L (.long (J a x.toNatClampNeg) :: st) (T, I, J, R) Q) := by
  refine rIn_cases (T := T) (a := a) (x := x) (κ := 1) (fun h => ?_) (fun h => ?_)
  · obtain ⟨n, h1, h2⟩ := rIn_some h
    rw [ex_H h0 rfl rfl (st1 := .long (J a x.toNatClampNeg) :: st) (σ1 := (T, I, J, R)) (by simp only [rH, h1, if_neg h2])]
    simp [h]
  · rw [ex_N h0 rfl rfl ?_ rfl rfl]
    · simp [h]
    · simp only [rH]
      split
      · rename_i n hn
        rw [if_pos (rIn_none h hn)]
      · rfl
theorem q_last {y : Int64} (h0 : rlk M.2.2.2.2.2.2 pc = some (.lastore, 1)) : Ex X d M pc L (.long y :: .int x :: .ref a :: st) (T, I, J, R) Q = (rIn T a 1 x ∧ Ex X d M (pc + 1) L st (T, I, va_up J a (va_up (J a) x.toNatClampNeg y), R) Q) := by
  refine rIn_cases (T := T) (a := a) (x := x) (κ := 1) (fun h => ?_) (fun h => ?_)
  · obtain ⟨n, h1, h2⟩ := rIn_some h
    rw [ex_H h0 rfl rfl (st1 := st) (σ1 := (T, I, va_up J a (va_up (J a) x.toNatClampNeg y), R)) (by simp only [rH, h1, if_neg h2])]
    simp [h]
  · rw [ex_N h0 rfl rfl ?_ rfl rfl]
    · simp [h]
    · simp only [rH]
      split
      · rename_i n hn
        rw [if_pos (rIn_none h hn)]
      · rfl
theorem q_aald (h0 : rlk M.2.2.2.2.2.2 pc = some (.aaload, 1)) : Ex X d M pc L (.int x :: .ref a :: st) (T, I, J, R) Q = (rIn T a 2 x ∧ Ex X d M (pc + 1) L (va_rf (R a x.toNatClampNeg) :: st) (T, I, J, R) Q) := by
  refine rIn_cases (T := T) (a := a) (x := x) (κ := 2) (fun h => ?_) (fun h => ?_)
  · obtain ⟨n, h1, h2⟩ := rIn_some h
    rw [ex_H h0 rfl rfl (st1 := va_rf (R a x.toNatClampNeg) :: st) (σ1 := (T, I, J, R)) (by simp only [rH, h1, if_neg h2])]
    simp [h]
  · rw [ex_N h0 rfl rfl ?_ rfl rfl]
    · simp [h]
    · simp only [rH]
      split
      · rename_i n hn
        rw [if_pos (rIn_none h hn)]
      · rfl
end EQ
