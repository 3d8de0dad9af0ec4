/-! PURE: the constructors -/
/-- a row of noughts -/
def kZ (I : tI) (x : Nat) : tI := va_up I x (fun _ => 0)
def kZL (J : tJ) (x : Nat) : tJ := va_up J x (fun _ => 0)
/-- an object's slots, and a reference put into one -/
def kN (R : tR) (x : Nat) : tR := va_up R x (fun _ => none)
def kP (R : tR) (a k v : Nat) : tR := va_up R a (va_up (R a) k (some v))
section KO
variable {X : tX} {T : tT} {I : tI} {J : tJ} {R : tR} {Q : tQ} {d a n : Nat}
theorem k_get {T l : tT} {a : Nat} {e : Nat × Nat} (h : T[a]? = some e) : (T ++ l)[a]? = some e := by
  have h1 : a < T.length := by
    rcases Nat.lt_or_ge a T.length with h1 | h1
    · exact h1
    · rw [List.getElem?_eq_none h1] at h
      cases h
  rw [List.getElem?_append_left h1]
  exact h
set_option maxRecDepth 50000 in
theorem k_X0 (h0 : T[a]? = some (3, 0)) (hl : T.length = n) (k : Q none (T ++ [(0, 40), (0, 40), (0, 40), (0, 40)], (kZ (kZ (kZ (kZ I n) (n + 1)) (n + 2)) (n + 3)), J, (kP (kP (kP (kP R a 0 n) a 1 (n + 1)) a 2 (n + 2)) a 3 (n + 3)))) : Ex X (d + 1) mX0_init 0 [.ref a] [] (T, I, J, R) Q := by
  have hg : ∀ l : tT, (T ++ l)[a]? = some (3, 0) := fun l => k_get h0
  simp only [gX0_init_0, nX0_init_7, nX0_init_15, nX0_init_23, nX0_init_31, List.append_assoc, List.cons_append, List.nil_append, List.length_append, List.length_cons, List.length_nil, hl, hg, h0, true_and, Nat.reduceAdd]
  exact k
set_option maxRecDepth 50000 in
theorem k_X1 (h0 : T[a]? = some (3, 1)) (hl : T.length = n) (k : Q none (T ++ [(0, 121), (0, 121)], (kZ (kZ I n) (n + 1)), J, (kP (kP R a 0 n) a 1 (n + 1)))) : Ex X (d + 1) mX1_init 0 [.ref a] [] (T, I, J, R) Q := by
  have hg : ∀ l : tT, (T ++ l)[a]? = some (3, 1) := fun l => k_get h0
  simp only [gX1_init_0, nX1_init_7, nX1_init_15, List.append_assoc, List.cons_append, List.nil_append, List.length_append, List.length_cons, List.length_nil, hl, hg, h0, true_and, Nat.reduceAdd]
  exact k
set_option maxRecDepth 50000 in
theorem k_X3 (h0 : T[a]? = some (3, 3)) (hl : T.length = n) (k : Q none (T ++ [(0, 8), (0, 8), (0, 8), (0, 8), (0, 7), (0, 8)], (va_up (kZ (kZ (kZ (kZ (kZ (kZ I n) (n + 1)) (n + 2)) (n + 3)) (n + 4)) (n + 5)) a (va_up ((kZ (kZ (kZ (kZ (kZ (kZ I n) (n + 1)) (n + 2)) (n + 3)) (n + 4)) (n + 5)) a) 6 3)), J, (kP (kP (kP (kP (kP (kP R a 0 n) a 1 (n + 1)) a 2 (n + 2)) a 3 (n + 3)) a 4 (n + 4)) a 5 (n + 5)))) : Ex X (d + 1) mX3_init 0 [.ref a] [] (T, I, J, R) Q := by
  have hg : ∀ l : tT, (T ++ l)[a]? = some (3, 3) := fun l => k_get h0
  simp only [gX3_init_0, nX3_init_7, nX3_init_15, nX3_init_23, nX3_init_31, nX3_init_39, nX3_init_47, List.append_assoc, List.cons_append, List.nil_append, List.length_append, List.length_cons, List.length_nil, hl, hg, h0, true_and, Nat.reduceAdd]
  exact k
set_option maxRecDepth 50000 in
theorem k_X4 (h0 : T[a]? = some (3, 4)) (hl : T.length = n) (k : Q none (T ++ [(1, 60)], I, (kZL J n), (kP R a 4 n))) : Ex X (d + 1) mX4_init 0 [.ref a] [] (T, I, J, R) Q := by
  have hg : ∀ l : tT, (T ++ l)[a]? = some (3, 4) := fun l => k_get h0
  simp only [gX4_init_0, nX4_init_7, List.append_assoc, List.cons_append, List.nil_append, List.length_append, List.length_cons, List.length_nil, hl, hg, h0, true_and, Nat.reduceAdd]
  exact k
set_option maxRecDepth 50000 in
theorem k_X5 (h0 : T[a]? = some (3, 5)) (hl : T.length = n) (k : Q none (T ++ [(0, 50), (0, 24)], (kZ (kZ I n) (n + 1)), J, (kP (kP R a 0 n) a 1 (n + 1)))) : Ex X (d + 1) mX5_init 0 [.ref a] [] (T, I, J, R) Q := by
  have hg : ∀ l : tT, (T ++ l)[a]? = some (3, 5) := fun l => k_get h0
  simp only [gX5_init_0, nX5_init_7, nX5_init_15, List.append_assoc, List.cons_append, List.nil_append, List.length_append, List.length_cons, List.length_nil, hl, hg, h0, true_and, Nat.reduceAdd]
  exact k
end KO
