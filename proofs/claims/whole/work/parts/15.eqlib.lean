/-! EQUATIONS of the abstract machine, an instruction each -/
/-- an index within a row of kind κ at a -/
def rIn (T : List (Nat × Nat)) (a κ : Nat) (k : Int32) : Prop := match T[a]? with
  | some (q, n) => q = κ ∧ ¬ (k < 0 ∨ n ≤ k.toNatClampNeg)
  | none => False
section EQ
variable {X : Nat → Nat × (Nat → Int32)} {d : Nat} {M : rM} {pc len : Nat} {L st : List Value} {σ : rS} {Q : Option Value → rS → Prop}
variable {T : List (Nat × Nat)} {I : Nat → Nat → Int32} {J : Nat → Nat → Int64} {R : Nat → Nat → Option Nat} {a b k ci f t : Nat} {x y : Int32} {o : Int}
theorem q_div (h0 : rlk M.2.2.2.2.2.2 pc = some (.idiv, 1)) : Ex X d M pc L (.int y :: .int x :: st) σ Q = (¬ y = 0 ∧ Ex X d M (pc + 1) L (.int (x / y) :: st) σ Q) := by
  by_cases hy : y = 0
  · rw [ex_N h0 (by simp [rP, rI2z, hy]) rfl rfl rfl rfl]
    simp [hy]
  · rw [ex_P h0 (by simp [rP, rI2z, hy]; exact ⟨rfl, rfl⟩)]
    simp [hy]
theorem q_rem (h0 : rlk M.2.2.2.2.2.2 pc = some (.irem, 1)) : Ex X d M pc L (.int y :: .int x :: st) σ Q = (¬ y = 0 ∧ Ex X d M (pc + 1) L (.int (x - x / y * y) :: st) σ Q) := by
  by_cases hy : y = 0
  · rw [ex_N h0 (by simp [rP, rI2z, hy]) rfl rfl rfl rfl]
    simp [hy]
  · rw [ex_P h0 (by simp [rP, rI2z, hy]; exact ⟨rfl, rfl⟩)]
    simp [hy]
theorem q_icmp {c : Jvm.ClassFile.Cond} (h0 : rlk M.2.2.2.2.2.2 pc = some (.if_icmp c o, 3)) (ht : rTo ((pc : Int) + o) = some t) : Ex X d M pc L (.int y :: .int x :: st) σ Q = if rCnd c x y = true then Ex X d M t L st σ Q else Ex X d M (pc + 3) L st σ Q := by
  rw [ex_B h0 rfl (pc1 := if rCnd c x y = true then t else pc + 3) (st1 := st) (by simp only [rB, ht])]
  split <;> rfl
theorem q_icmp_eq (h0 : rlk M.2.2.2.2.2.2 pc = some (.if_icmp .eq o, 3)) (ht : rTo ((pc : Int) + o) = some t) : Ex X d M pc L (.int y :: .int x :: st) σ Q = if x = y then Ex X d M t L st σ Q else Ex X d M (pc + 3) L st σ Q := by
  rw [q_icmp h0 ht]; simp [rCnd]
theorem q_icmp_ne (h0 : rlk M.2.2.2.2.2.2 pc = some (.if_icmp .ne o, 3)) (ht : rTo ((pc : Int) + o) = some t) : Ex X d M pc L (.int y :: .int x :: st) σ Q = if x = y then Ex X d M (pc + 3) L st σ Q else Ex X d M t L st σ Q := by
  rw [q_icmp h0 ht]
  by_cases h : x = y <;> simp [rCnd, h]
theorem q_icmp_lt (h0 : rlk M.2.2.2.2.2.2 pc = some (.if_icmp .lt o, 3)) (ht : rTo ((pc : Int) + o) = some t) : Ex X d M pc L (.int y :: .int x :: st) σ Q = if x < y then Ex X d M t L st σ Q else Ex X d M (pc + 3) L st σ Q := by
  rw [q_icmp h0 ht]; simp only [rCnd, decide_eq_true_eq]
theorem q_icmp_ge (h0 : rlk M.2.2.2.2.2.2 pc = some (.if_icmp .ge o, 3)) (ht : rTo ((pc : Int) + o) = some t) : Ex X d M pc L (.int y :: .int x :: st) σ Q = if y ≤ x then Ex X d M t L st σ Q else Ex X d M (pc + 3) L st σ Q := by
  rw [q_icmp h0 ht]; simp only [rCnd, decide_eq_true_eq]
theorem q_icmp_gt (h0 : rlk M.2.2.2.2.2.2 pc = some (.if_icmp .gt o, 3)) (ht : rTo ((pc : Int) + o) = some t) : Ex X d M pc L (.int y :: .int x :: st) σ Q = if y < x then Ex X d M t L st σ Q else Ex X d M (pc + 3) L st σ Q := by
  rw [q_icmp h0 ht]; simp only [rCnd, decide_eq_true_eq]
theorem q_icmp_le (h0 : rlk M.2.2.2.2.2.2 pc = some (.if_icmp .le o, 3)) (ht : rTo ((pc : Int) + o) = some t) : Ex X d M pc L (.int y :: .int x :: st) σ Q = if x ≤ y then Ex X d M t L st σ Q else Ex X d M (pc + 3) L st σ Q := by
  rw [q_icmp h0 ht]; simp only [rCnd, decide_eq_true_eq]
theorem q_if {c : Jvm.ClassFile.Cond} (h0 : rlk M.2.2.2.2.2.2 pc = some (.ifCond c o, 3)) (ht : rTo ((pc : Int) + o) = some t) : Ex X d M pc L (.int x :: st) σ Q = if rCnd c x 0 = true then Ex X d M t L st σ Q else Ex X d M (pc + 3) L st σ Q := by
  rw [ex_B h0 rfl (pc1 := if rCnd c x 0 = true then t else pc + 3) (st1 := st) (by simp only [rB, ht])]
  split <;> rfl
theorem q_if_eq (h0 : rlk M.2.2.2.2.2.2 pc = some (.ifCond .eq o, 3)) (ht : rTo ((pc : Int) + o) = some t) : Ex X d M pc L (.int x :: st) σ Q = if x = 0 then Ex X d M t L st σ Q else Ex X d M (pc + 3) L st σ Q := by
  rw [q_if h0 ht]; simp [rCnd]
theorem q_if_ne (h0 : rlk M.2.2.2.2.2.2 pc = some (.ifCond .ne o, 3)) (ht : rTo ((pc : Int) + o) = some t) : Ex X d M pc L (.int x :: st) σ Q = if x = 0 then Ex X d M (pc + 3) L st σ Q else Ex X d M t L st σ Q := by
  rw [q_if h0 ht]
  by_cases h : x = 0 <;> simp [rCnd, h]
theorem q_if_lt (h0 : rlk M.2.2.2.2.2.2 pc = some (.ifCond .lt o, 3)) (ht : rTo ((pc : Int) + o) = some t) : Ex X d M pc L (.int x :: st) σ Q = if x < 0 then Ex X d M t L st σ Q else Ex X d M (pc + 3) L st σ Q := by
  rw [q_if h0 ht]; simp only [rCnd, decide_eq_true_eq]
theorem q_if_ge (h0 : rlk M.2.2.2.2.2.2 pc = some (.ifCond .ge o, 3)) (ht : rTo ((pc : Int) + o) = some t) : Ex X d M pc L (.int x :: st) σ Q = if 0 ≤ x then Ex X d M t L st σ Q else Ex X d M (pc + 3) L st σ Q := by
  rw [q_if h0 ht]; simp only [rCnd, decide_eq_true_eq]
theorem q_if_gt (h0 : rlk M.2.2.2.2.2.2 pc = some (.ifCond .gt o, 3)) (ht : rTo ((pc : Int) + o) = some t) : Ex X d M pc L (.int x :: st) σ Q = if 0 < x then Ex X d M t L st σ Q else Ex X d M (pc + 3) L st σ Q := by
  rw [q_if h0 ht]; simp only [rCnd, decide_eq_true_eq]
theorem q_if_le (h0 : rlk M.2.2.2.2.2.2 pc = some (.ifCond .le o, 3)) (ht : rTo ((pc : Int) + o) = some t) : Ex X d M pc L (.int x :: st) σ Q = if x ≤ 0 then Ex X d M t L st σ Q else Ex X d M (pc + 3) L st σ Q := by
  rw [q_if h0 ht]; simp only [rCnd, decide_eq_true_eq]
theorem q_goto (h0 : rlk M.2.2.2.2.2.2 pc = some (.goto o, 3)) (ht : rTo ((pc : Int) + o) = some t) : Ex X d M pc L st σ Q = Ex X d M t L st σ Q :=
  ex_B h0 rfl (by simp only [rB, ht])
theorem q_getI {κ : Nat} (h0 : rlk M.2.2.2.2.2.2 pc = some (.getfield k, 3)) (h1 : rA (rFT M.1) k = some (ci, f)) (h2 : (rFK ci)[f]? = some κ) (h3 : ¬ κ = 2) : Ex X d M pc L (.ref a :: st) (T, I, J, R) Q = (T[a]? = some (3, ci) ∧ Ex X d M (pc + 3) L (.int (I a f) :: st) (T, I, J, R) Q) := by
  by_cases hT : T[a]? = some (3, ci)
  · rw [ex_H h0 rfl rfl (st1 := .int (I a f) :: st) (σ1 := (T, I, J, R)) ?_]
    · simp [hT]
    · simp only [rH, h1, hT, if_true, h2]
  · rw [ex_N h0 rfl rfl ?_ rfl rfl]
    · simp [hT]
    · simp only [rH, h1, hT, if_false]
theorem q_getR (h0 : rlk M.2.2.2.2.2.2 pc = some (.getfield k, 3)) (h1 : rA (rFT M.1) k = some (ci, f)) (h2 : (rFK ci)[f]? = some 2) : Ex X d M pc L (.ref a :: st) (T, I, J, R) Q = (T[a]? = some (3, ci) ∧ Ex X d M (pc + 3) L (va_rf (R a f) :: st) (T, I, J, R) Q) := by
  by_cases hT : T[a]? = some (3, ci)
  · rw [ex_H h0 rfl rfl (st1 := va_rf (R a f) :: st) (σ1 := (T, I, J, R)) ?_]
    · simp [hT]
    · simp only [rH, h1, hT, if_true, h2]
  · rw [ex_N h0 rfl rfl ?_ rfl rfl]
    · simp [hT]
    · simp only [rH, h1, hT, if_false]
theorem q_putI (h0 : rlk M.2.2.2.2.2.2 pc = some (.putfield k, 3)) (h1 : rA (rFT M.1) k = some (ci, f)) (h2 : (rFK ci)[f]? = some 0) (h3 : rPut M ci f = true) : Ex X d M pc L (.int x :: .ref a :: st) (T, I, J, R) Q = (T[a]? = some (3, ci) ∧ Ex X d M (pc + 3) L st (T, va_up I a (va_up (I a) f x), J, R) Q) := by
  by_cases hT : T[a]? = some (3, ci)
  · rw [ex_H h0 rfl rfl (st1 := st) (σ1 := (T, va_up I a (va_up (I a) f x), J, R)) ?_]
    · simp [hT]
    · simp [rH, h1, hT, h2, h3]
  · rw [ex_N h0 rfl rfl ?_ rfl rfl]
    · simp [hT]
    · simp [rH, h1, hT]
theorem q_putZ (h0 : rlk M.2.2.2.2.2.2 pc = some (.putfield k, 3)) (h1 : rA (rFT M.1) k = some (ci, f)) (h2 : (rFK ci)[f]? = some 1) (h3 : rPut M ci f = true) : Ex X d M pc L (.int x :: .ref a :: st) (T, I, J, R) Q = (T[a]? = some (3, ci) ∧ (x = 0 ∨ x = 1) ∧ Ex X d M (pc + 3) L st (T, va_up I a (va_up (I a) f x), J, R) Q) := by
  by_cases hT : T[a]? = some (3, ci) ∧ (x = 0 ∨ x = 1)
  · rw [ex_H h0 rfl rfl (st1 := st) (σ1 := (T, va_up I a (va_up (I a) f x), J, R)) ?_]
    · simp [hT]
    · simp [rH, h1, hT.1, h2, h3, hT.2]
  · rw [ex_N h0 rfl rfl ?_ rfl rfl]
    · exact (eq_false (fun q => hT ⟨q.1, q.2.1⟩)).symm
    · by_cases hT1 : T[a]? = some (3, ci)
      · simp [rH, h1, hT1, h2, h3]
        exact ⟨fun q => hT ⟨hT1, Or.inl q⟩, fun q => hT ⟨hT1, Or.inr q⟩⟩
      · simp [rH, h1, hT1]
theorem q_putR (h0 : rlk M.2.2.2.2.2.2 pc = some (.putfield k, 3)) (h1 : rA (rFT M.1) k = some (ci, f)) (h2 : (rFK ci)[f]? = some 2) (h3 : rPut M ci f = true) : Ex X d M pc L (.ref b :: .ref a :: st) (T, I, J, R) Q = (T[a]? = some (3, ci) ∧ Ex X d M (pc + 3) L st (T, I, J, va_up R a (va_up (R a) f (some b))) Q) := by
  by_cases hT : T[a]? = some (3, ci)
  · rw [ex_H h0 rfl rfl (st1 := st) (σ1 := (T, I, J, va_up R a (va_up (R a) f (some b)))) ?_]
    · simp [hT]
    · simp [rH, h1, hT, h2, h3]
  · rw [ex_N h0 rfl rfl ?_ rfl rfl]
    · simp [hT]
    · simp [rH, h1, hT]
theorem q_gets {j : Nat} (h0 : rlk M.2.2.2.2.2.2 pc = some (.getstatic k, 3)) (h1 : rA (rST M.1) k = some j) : Ex X d M pc L st (T, I, J, R) Q = Ex X d M (pc + 3) L (.retAddr j :: st) (T, I, J, R) Q :=
  ex_H h0 rfl rfl (by simp [rH, h1])
theorem q_ldc {v : Int32} (h0 : rlk M.2.2.2.2.2.2 pc = some (.ldc k, 2)) (h1 : rA (rKI M.1) k = some v) : Ex X d M pc L st (T, I, J, R) Q = Ex X d M (pc + 2) L (.int v :: st) (T, I, J, R) Q :=
  ex_H h0 rfl rfl (by simp [rH, h1])
theorem q_ldcw {v : Int32} (h0 : rlk M.2.2.2.2.2.2 pc = some (.ldc_w k, 3)) (h1 : rA (rKI M.1) k = some v) : Ex X d M pc L st (T, I, J, R) Q = Ex X d M (pc + 3) L (.int v :: st) (T, I, J, R) Q :=
  ex_H h0 rfl rfl (by simp [rH, h1])
theorem q_ldc2 {v : Int64} (h0 : rlk M.2.2.2.2.2.2 pc = some (.ldc2_w k, 3)) (h1 : rA (rKL M.1) k = some v) : Ex X d M pc L st (T, I, J, R) Q = Ex X d M (pc + 3) L (.long v :: st) (T, I, J, R) Q :=
  ex_H h0 rfl rfl (by simp [rH, h1])
theorem rIn_cases {P : Prop} {κ : Nat} (h : rIn T a κ x → P) (h2 : ¬ rIn T a κ x → P) : P := (Classical.em _).elim h h2
theorem rIn_some {κ : Nat} (h : rIn T a κ x) : ∃ n, T[a]? = some (κ, n) ∧ ¬ (x < 0 ∨ n ≤ x.toNatClampNeg) := by
  unfold rIn at h
  split at h
  · rename_i q n hq
    obtain ⟨rfl, h2⟩ := h
    exact ⟨n, hq, h2⟩
  · exact h.elim
theorem rIn_none {κ n : Nat} (h : ¬ rIn T a κ x) (hT : T[a]? = some (κ, n)) : x < 0 ∨ n ≤ x.toNatClampNeg := by
  refine Classical.byContradiction fun q => h ?_
  unfold rIn
  rw [hT]
  exact ⟨rfl, q⟩
theorem q_iald (h0 : rlk M.2.2.2.2.2.2 pc = some (.iaload, 1)) : Ex X d M pc L (.int x :: .ref a :: st) (T, I, J, R) Q = (rIn T a 0 x ∧ Ex X d M (pc + 1) L (.int (I a x.toNatClampNeg) :: st) (T, I, J, R) Q) := by
  refine rIn_cases (T := T) (a := a) (x := x) (κ := 0) (fun h => ?_) (fun h => ?_)
  · obtain ⟨n, h1, h2⟩ := rIn_some h
    rw [ex_H h0 rfl rfl (st1 := .int (I a x.toNatClampNeg) :: st) (σ1 := (T, I, J, R)) (by simp only [rH, h1, if_neg h2])]
    simp [h]
  · rw [ex_N h0 rfl rfl ?_ rfl rfl]
    · simp [h]
    · simp only [rH]
      split
      · rename_i n hn
        rw [if_pos (rIn_none h hn)]
      · rfl
theorem q_iaxX {j : Nat} (h0 : rlk M.2.2.2.2.2.2 pc = some (.iaload, 1)) (hj : j < 5) : Ex X d M pc L (.int x :: .retAddr j :: st) (T, I, J, R) Q = (¬ (x < 0 ∨ (X j).1 ≤ x.toNatClampNeg) ∧ Ex X d M (pc + 1) L (.int ((X j).2 x.toNatClampNeg) :: st) (T, I, J, R) Q) := by
  by_cases h : x < 0 ∨ (X j).1 ≤ x.toNatClampNeg
  · rw [ex_N h0 rfl rfl ?_ rfl rfl]
    · simp [h]
    · simp only [rH]
      rw [if_pos (Or.inr h)]
  · rw [ex_H h0 rfl rfl (st1 := .int ((X j).2 x.toNatClampNeg) :: st) (σ1 := (T, I, J, R)) ?_]
    · simp [h]
    · simp only [rH]
      rw [if_neg]
      rintro (q | q)
      · exact q hj
      · exact h q
theorem q_iast {y : Int32} (h0 : rlk M.2.2.2.2.2.2 pc = some (.iastore, 1)) : Ex X d M pc L (.int y :: .int x :: .ref a :: st) (T, I, J, R) Q = (rIn T a 0 x ∧ Ex X d M (pc + 1) L st (T, va_up I a (va_up (I a) x.toNatClampNeg y), J, R) Q) := by
  refine rIn_cases (T := T) (a := a) (x := x) (κ := 0) (fun h => ?_) (fun h => ?_)
  · obtain ⟨n, h1, h2⟩ := rIn_some h
    rw [ex_H h0 rfl rfl (st1 := st) (σ1 := (T, va_up I a (va_up (I a) x.toNatClampNeg y), J, R)) (by simp only [rH, h1, if_neg h2])]
    simp [h]
  · rw [ex_N h0 rfl rfl ?_ rfl rfl]
    · simp [h]
    · simp only [rH]
      split
      · rename_i n hn
        rw [if_pos (rIn_none h hn)]
      · rfl
theorem q_lald (h0 : rlk M.2.2.2.2.2.2 pc = some (.laload, 1)) : Ex X d M pc L (.int x :: .ref a :: st) (T, I, J, R) Q = (rIn T a 1 x ∧ Ex X d M (pc + 1) L (.long (J a x.toNatClampNeg) :: st) (T, I, J, R) Q) := by
  refine rIn_cases (T := T) (a := a) (x := x) (κ := 1) (fun h => ?_) (fun h => ?_)
  · obtain ⟨n, h1, h2⟩ := rIn_some h
    rw [ex_H h0 rfl rfl (st1 := .long (J a x.toNatClampNeg) :: st) (σ1 := (T, I, J, R)) (by simp only [rH, h1, if_neg h2])]
    simp [h]
  · rw [ex_N h0 rfl rfl ?_ rfl rfl]
    · simp [h]
    · simp only [rH]
      split
      · rename_i n hn
        rw [if_pos (rIn_none h hn)]
      · rfl
theorem q_last {y : Int64} (h0 : rlk M.2.2.2.2.2.2 pc = some (.lastore, 1)) : Ex X d M pc L (.long y :: .int x :: .ref a :: st) (T, I, J, R) Q = (rIn T a 1 x ∧ Ex X d M (pc + 1) L st (T, I, va_up J a (va_up (J a) x.toNatClampNeg y), R) Q) := by
  refine rIn_cases (T := T) (a := a) (x := x) (κ := 1) (fun h => ?_) (fun h => ?_)
  · obtain ⟨n, h1, h2⟩ := rIn_some h
    rw [ex_H h0 rfl rfl (st1 := st) (σ1 := (T, I, va_up J a (va_up (J a) x.toNatClampNeg y), R)) (by simp only [rH, h1, if_neg h2])]
    simp [h]
  · rw [ex_N h0 rfl rfl ?_ rfl rfl]
    · simp [h]
    · simp only [rH]
      split
      · rename_i n hn
        rw [if_pos (rIn_none h hn)]
      · rfl
theorem q_aald (h0 : rlk M.2.2.2.2.2.2 pc = some (.aaload, 1)) : Ex X d M pc L (.int x :: .ref a :: st) (T, I, J, R) Q = (rIn T a 2 x ∧ Ex X d M (pc + 1) L (va_rf (R a x.toNatClampNeg) :: st) (T, I, J, R) Q) := by
  refine rIn_cases (T := T) (a := a) (x := x) (κ := 2) (fun h => ?_) (fun h => ?_)
  · obtain ⟨n, h1, h2⟩ := rIn_some h
    rw [ex_H h0 rfl rfl (st1 := va_rf (R a x.toNatClampNeg) :: st) (σ1 := (T, I, J, R)) (by simp only [rH, h1, if_neg h2])]
    simp [h]
  · rw [ex_N h0 rfl rfl ?_ rfl rfl]
    · simp [h]
    · simp only [rH]
      split
      · rename_i n hn
        rw [if_pos (rIn_none h hn)]
      · rfl
theorem q_max (h0 : rlk M.2.2.2.2.2.2 pc = some (.invokestatic k, 3)) (h1 : (rMX M.1).contains k = true) (hc : rCat st ≤ 8) : Ex X (d + 1) M pc L (.int y :: .int x :: st) (T, I, J, R) Q = Ex X (d + 1) M (pc + 3) L (.int (if x < y then y else x) :: st) (T, I, J, R) Q := by
  refine ex_H h0 rfl rfl ?_
  simp only [rH, h1, if_true]
  rw [if_pos ⟨by omega, hc⟩]
theorem q_min (h0 : rlk M.2.2.2.2.2.2 pc = some (.invokestatic k, 3)) (h1 : (rMX M.1).contains k = false) (h2 : (rMN M.1).contains k = true) (hc : rCat st ≤ 8) : Ex X (d + 1) M pc L (.int y :: .int x :: st) (T, I, J, R) Q = Ex X (d + 1) M (pc + 3) L (.int (if y < x then y else x) :: st) (T, I, J, R) Q := by
  refine ex_H h0 rfl rfl ?_
  simp only [rH, h1, h2, if_true, Bool.false_eq_true, if_false]
  rw [if_pos ⟨by omega, hc⟩]
theorem q_retI (h0 : rlk M.2.2.2.2.2.2 pc = some (.ireturn, 1)) (h1 : M.2.2.2.2.1 = some .int) : Ex X d M pc L [.int x] σ Q = Q (some (.int x)) σ :=
  ex_R h0 rfl rfl rfl rfl (by simp only [rRt, h1])
theorem q_retZ (h0 : rlk M.2.2.2.2.2.2 pc = some (.ireturn, 1)) (h1 : M.2.2.2.2.1 = some .boolean) : Ex X d M pc L [.int x] σ Q = ((x = 0 ∨ x = 1) ∧ Q (some (.int x)) σ) := by
  by_cases h : x = 0 ∨ x = 1
  · rw [ex_R (v := some (.int x)) h0 rfl rfl rfl rfl (by simp only [rRt, h1, if_pos h])]
    simp [h]
  · rw [ex_N h0 rfl rfl rfl rfl (by simp only [rRt, h1, if_neg h])]
    simp [h]
theorem q_retJ {w : Int64} (h0 : rlk M.2.2.2.2.2.2 pc = some (.lreturn, 1)) (h1 : M.2.2.2.2.1 = some .long) : Ex X d M pc L [.long w] σ Q = Q (some (.long w)) σ :=
  ex_R h0 rfl rfl rfl rfl (by simp only [rRt, h1])
theorem q_retA {u : FieldType} (h0 : rlk M.2.2.2.2.2.2 pc = some (.areturn, 1)) (h1 : M.2.2.2.2.1 = some (.array u)) : Ex X d M pc L [.ref a] σ Q = Q (some (.ref a)) σ :=
  ex_R h0 rfl rfl rfl rfl (by simp only [rRt, h1])
theorem q_retO {u : String} (h0 : rlk M.2.2.2.2.2.2 pc = some (.areturn, 1)) (h1 : M.2.2.2.2.1 = some (.object u)) : Ex X d M pc L [.ref a] σ Q = Q (some (.ref a)) σ :=
  ex_R h0 rfl rfl rfl rfl (by simp only [rRt, h1])
theorem q_retV (h0 : rlk M.2.2.2.2.2.2 pc = some (.return_, 1)) (h1 : M.2.2.2.2.1 = none) : Ex X d M pc L [] σ Q = Q none σ :=
  ex_R h0 rfl rfl rfl rfl (by simp only [rRt, h1])
theorem ex_CN {i : Jvm.ClassFile.Instr} {k : Nat} {N : rM} (h0 : rlk M.2.2.2.2.2.2 pc = some (i, len)) (h1 : rP i L st = none) (h2 : rB i pc st = none) (h3 : rH X d M i st σ.1 σ.2.1 σ.2.2.1 σ.2.2.2 = none) (h4 : rCal M i = some (k, N)) (h5 : rSpl N k st σ.1 = none) : Ex X d M pc L st σ Q = False := by
  apply propext
  constructor
  · rintro ⟨n, v, σ1, h, hq⟩
    cases n with
    | zero => simp [rI] at h
    | succ n =>
      rw [rI] at h
      simp only [h0, h1, h2, h3, h4, h5] at h
      cases h
  · exact False.elim
theorem q_callV {N : rM} {as st0 E : List Value} (h0 : rlk M.2.2.2.2.2.2 pc = some (.invokevirtual k, 3)) (h1 : rA (rCT M.1) k = some (0, N)) (hst : st0 = as.reverse ++ .ref b :: st) (hn : N.2.2.2.2.2.1 = as.length + 1) (hc : rCat st ≤ 8) (ha : (rArg (.ref b :: as)).length ≤ N.2.2.2.1) (he : rEnt N (.ref b :: as) = E) :
    Ex X (d + 1) M pc L st0 (T, I, J, R) Q = (T[b]? = some (3, N.1) ∧ Ex X d N 0 E [] (T, I, J, R) (fun v σ1 => Ex X (d + 1) M (pc + 3) L (v.toList ++ st) σ1 Q)) := by
  have e1 : st0.take N.2.2.2.2.2.1 = as.reverse ++ [.ref b] := by rw [hst, hn, show as.reverse ++ .ref b :: st = (as.reverse ++ [.ref b]) ++ st by simp]; exact List.take_left' (by simp)
  have e2 : st0.drop N.2.2.2.2.2.1 = st := by rw [hst, hn, show as.reverse ++ .ref b :: st = (as.reverse ++ [.ref b]) ++ st by simp]; exact List.drop_left' (by simp)
  have e3 : (st0.take N.2.2.2.2.2.1).reverse = .ref b :: as := by rw [e1]; simp
  have e4 : N.2.2.2.2.2.1 ≤ st0.length := by rw [hst, hn]; simp
  by_cases hT : T[b]? = some (3, N.1)
  · rw [ex_C (as := .ref b :: as) (st1 := st) (N := N) (k := 0) h0 rfl rfl rfl (by simp only [rCal, h1]) ?_, he]
    · simp [hT]
    · unfold rSpl
      rw [e3, e2, if_pos ⟨e4, hc, ha, by simp [rRcv, hT]⟩]
  · rw [ex_CN (N := N) (k := 0) h0 rfl rfl rfl (by simp only [rCal, h1]) ?_]
    · simp [hT]
    · unfold rSpl
      rw [e3, e2, if_neg]
      rintro ⟨-, -, -, h⟩
      simp [rRcv, hT] at h
theorem q_callS {N : rM} {as st0 E : List Value} {κ : Nat} (h0 : rlk M.2.2.2.2.2.2 pc = some (.invokestatic k, 3)) (h1 : rA (rCT M.1) k = some (κ, N)) (hκ : κ = 1 ∨ κ = 2) (hm1 : (rMX M.1).contains k = false) (hm2 : (rMN M.1).contains k = false) (hm3 : (rAC M.1).contains k = false) (hst : st0 = as.reverse ++ st) (hn : N.2.2.2.2.2.1 = as.length) (hc : rCat st ≤ 8) (ha : (rArg as).length ≤ N.2.2.2.1) (he : rEnt N as = E) :
    Ex X (d + 1) M pc L st0 σ Q = Ex X d N 0 E [] σ (fun v σ1 => Ex X (d + 1) M (pc + 3) L (v.toList ++ st) σ1 Q) := by
  have e1 : st0.take N.2.2.2.2.2.1 = as.reverse := by rw [hst, hn]; exact List.take_left' (by simp)
  have e2 : st0.drop N.2.2.2.2.2.1 = st := by rw [hst, hn]; exact List.drop_left' (by simp)
  have e3 : (st0.take N.2.2.2.2.2.1).reverse = as := by rw [e1]; simp
  have e4 : N.2.2.2.2.2.1 ≤ st0.length := by rw [hst, hn]; simp
  rw [ex_C (as := as) (st1 := st) (N := N) (k := κ) h0 rfl rfl ?_ ?_ ?_, he]
  · simp only [rH, hm1, hm2, hm3, Bool.false_eq_true, if_false, false_and]
    split <;> rfl
  · rcases hκ with rfl | rfl <;> simp only [rCal, h1]
  · unfold rSpl
    rw [e3, e2, if_pos ⟨e4, hc, ha, by rcases hκ with rfl | rfl <;> rfl⟩]
theorem q_callI {N : rM} {as st0 E : List Value} (h0 : rlk M.2.2.2.2.2.2 pc = some (.invokespecial k, 3)) (h1 : rA (rCT M.1) k = some (3, N)) (hm : (rOI M.1).contains k = false) (hst : st0 = as.reverse ++ .ref b :: st) (hn : N.2.2.2.2.2.1 = as.length + 1) (hc : rCat st ≤ 8) (ha : (rArg (.ref b :: as)).length ≤ N.2.2.2.1) (he : rEnt N (.ref b :: as) = E) :
    Ex X (d + 1) M pc L st0 σ Q = Ex X d N 0 E [] σ (fun v σ1 => Ex X (d + 1) M (pc + 3) L (v.toList ++ st) σ1 Q) := by
  have e1 : st0.take N.2.2.2.2.2.1 = as.reverse ++ [.ref b] := by rw [hst, hn, show as.reverse ++ .ref b :: st = (as.reverse ++ [.ref b]) ++ st by simp]; exact List.take_left' (by simp)
  have e2 : st0.drop N.2.2.2.2.2.1 = st := by rw [hst, hn, show as.reverse ++ .ref b :: st = (as.reverse ++ [.ref b]) ++ st by simp]; exact List.drop_left' (by simp)
  have e3 : (st0.take N.2.2.2.2.2.1).reverse = .ref b :: as := by rw [e1]; simp
  have e4 : N.2.2.2.2.2.1 ≤ st0.length := by rw [hst, hn]; simp
  rw [ex_C (as := .ref b :: as) (st1 := st) (N := N) (k := 3) h0 rfl rfl ?_ (by simp only [rCal, h1]) ?_, he]
  · simp only [rH, hm, Bool.false_eq_true, false_and, if_false]
    split <;> rfl
  · unfold rSpl
    rw [e3, e2, if_pos ⟨e4, hc, ha, rfl⟩]
theorem q_objI (h0 : rlk M.2.2.2.2.2.2 pc = some (.invokespecial k, 3)) (h1 : (rOI M.1).contains k = true) (hc : rCat st ≤ 8) : Ex X (d + 1) M pc L (.ref a :: st) (T, I, J, R) Q = Ex X (d + 1) M (pc + 3) L st (T, I, J, R) Q := by
  refine ex_H h0 rfl rfl ?_
  simp only [rH]
  rw [if_pos ⟨h1, by omega, hc⟩]
theorem q_new (h0 : rlk M.2.2.2.2.2.2 pc = some (.new k, 3)) (h1 : rA (rNW M.1) k = some ci) : Ex X d M pc L st (T, I, J, R) Q = Ex X d M (pc + 3) L (.ref T.length :: st) (T ++ [(3, ci)], va_up I T.length (fun _ => 0), J, va_up R T.length (fun _ => none)) Q :=
  ex_H h0 rfl rfl (by simp only [rH, h1])
theorem q_newI (h0 : rlk M.2.2.2.2.2.2 pc = some (.newarray .int, 2)) (hx : ¬ (x < 0 ∨ 1000 < x.toNatClampNeg)) : Ex X d M pc L (.int x :: st) (T, I, J, R) Q = Ex X d M (pc + 2) L (.ref T.length :: st) (T ++ [(0, x.toNatClampNeg)], va_up I T.length (fun _ => 0), J, R) Q :=
  ex_H h0 rfl rfl (by simp only [rH, if_neg hx])
theorem q_newJ (h0 : rlk M.2.2.2.2.2.2 pc = some (.newarray .long, 2)) (hx : ¬ (x < 0 ∨ 1000 < x.toNatClampNeg)) : Ex X d M pc L (.int x :: st) (T, I, J, R) Q = Ex X d M (pc + 2) L (.ref T.length :: st) (T ++ [(1, x.toNatClampNeg)], I, va_up J T.length (fun _ => 0), R) Q :=
  ex_H h0 rfl rfl (by simp only [rH, if_neg hx])
theorem q_newS (h0 : rlk M.2.2.2.2.2.2 pc = some (.anewarray k, 3)) (h1 : rA (rNW M.1) k = some 4) (hx : ¬ (x < 0 ∨ 1000 < x.toNatClampNeg)) : Ex X d M pc L (.int x :: st) (T, I, J, R) Q = Ex X d M (pc + 3) L (.ref T.length :: st) (T ++ [(2, x.toNatClampNeg)], I, J, va_up R T.length (fun _ => none)) Q :=
  ex_H h0 rfl rfl (by simp only [rH, h1, if_neg hx])
theorem q_aast (h0 : rlk M.2.2.2.2.2.2 pc = some (.aastore, 1)) (h1 : rIn T a 2 x) (h2 : T[b]? = some (3, 4)) : Ex X d M pc L (.ref b :: .int x :: .ref a :: st) (T, I, J, R) Q = Ex X d M (pc + 1) L st (T, I, J, va_up R a (va_up (R a) x.toNatClampNeg (some b))) Q := by
  obtain ⟨n, h3, h4⟩ := rIn_some h1
  refine ex_H h0 rfl rfl ?_
  simp only [rH, h3]
  rw [if_neg]
  rintro (q | q)
  · exact h4 q
  · exact q h2
theorem q_alen {j : Nat} (h0 : rlk M.2.2.2.2.2.2 pc = some (.arraylength, 1)) (hj : j < 5) : Ex X d M pc L (.retAddr j :: st) (T, I, J, R) Q = Ex X d M (pc + 1) L (.int (Int32.ofNat (X j).1) :: st) (T, I, J, R) Q :=
  ex_H h0 rfl rfl (by simp only [rH, if_pos hj])
theorem q_cpI {n sp dp : Int32} {la lb : Nat} (h0 : rlk M.2.2.2.2.2.2 pc = some (.invokestatic k, 3)) (h1 : (rMX M.1).contains k = false) (h2 : (rMN M.1).contains k = false) (h3 : (rAC M.1).contains k = true) (hc : rCat st ≤ 8) (ha : T[a]? = some (0, la)) (hb : T[b]? = some (0, lb)) (hs : ¬ sp < 0 ∧ ¬ dp < 0 ∧ ¬ n < 0) (hl : sp.toNatClampNeg + n.toNatClampNeg ≤ la ∧ dp.toNatClampNeg + n.toNatClampNeg ≤ lb) :
    Ex X (d + 1) M pc L (.int n :: .int dp :: .ref b :: .int sp :: .ref a :: st) (T, I, J, R) Q = Ex X (d + 1) M (pc + 3) L st (T, va_up I b (va_cpy (I a) (I b) sp.toNatClampNeg dp.toNatClampNeg n.toNatClampNeg), J, R) Q := by
  refine ex_H h0 rfl rfl ?_
  simp only [rH, h1, h2, Bool.false_eq_true, if_false]
  rw [if_pos ⟨h3, by omega, hc, hs⟩]
  simp only [ha, hb]
  rw [if_pos hl]
theorem q_cpJ {n sp dp : Int32} {la lb : Nat} (h0 : rlk M.2.2.2.2.2.2 pc = some (.invokestatic k, 3)) (h1 : (rMX M.1).contains k = false) (h2 : (rMN M.1).contains k = false) (h3 : (rAC M.1).contains k = true) (hc : rCat st ≤ 8) (ha : T[a]? = some (1, la)) (hb : T[b]? = some (1, lb)) (hs : ¬ sp < 0 ∧ ¬ dp < 0 ∧ ¬ n < 0) (hl : sp.toNatClampNeg + n.toNatClampNeg ≤ la ∧ dp.toNatClampNeg + n.toNatClampNeg ≤ lb) :
    Ex X (d + 1) M pc L (.int n :: .int dp :: .ref b :: .int sp :: .ref a :: st) (T, I, J, R) Q = Ex X (d + 1) M (pc + 3) L st (T, I, va_up J b (va_cpy (J a) (J b) sp.toNatClampNeg dp.toNatClampNeg n.toNatClampNeg), R) Q := by
  refine ex_H h0 rfl rfl ?_
  simp only [rH, h1, h2, Bool.false_eq_true, if_false]
  rw [if_pos ⟨h3, by omega, hc, hs⟩]
  simp only [ha, hb]
  rw [if_pos hl]
end EQ
abbrev tX : Type := Nat → Nat × (Nat → Int32)
abbrev tT : Type := List (Nat × Nat)
abbrev tI : Type := Nat → Nat → Int32
abbrev tJ : Type := Nat → Nat → Int64
abbrev tR : Type := Nat → Nat → Option Nat
abbrev tQ : Type := Option Value → rS → Prop
