/-! PURE: the two objects that the law makes -/
def kS (I : tI) (a : Nat) : tI := va_up I a (va_up (I a) 6 3)
section KQ
variable {X : tX} {T : tT} {I : tI} {J : tJ} {R : tR} {Q : tQ} {d a n : Nat}
theorem k_at {T l : tT} {m n : Nat} (j : Nat) (hl : T.length = n) (hm : m = n + j) : (T ++ l)[m]? = l[j]? := by
  subst hm
  subst hl
  rw [List.getElem?_append_right (Nat.le_add_right _ _), Nat.add_sub_cancel_left]
set_option maxRecDepth 50000 in
theorem k_X2 (h0 : T[a]? = some (3, 2)) (hl : T.length = n) (k : Q none (T ++ [(0, 120), (3, 1), (0, 121), (0, 121)], (kZ (kZ (kZ (kZ I n) (n + 1)) (n + 2)) (n + 3)), J, (kP (kP (kP (kN (kP R a 0 n) (n + 1)) (n + 1) 0 (n + 2)) (n + 1) 1 (n + 3)) a 3 (n + 1)))) : Ex X (d + 2) mX2_init 0 [.ref a] [] (T, I, J, R) Q := by
  have hg : ∀ l : tT, (T ++ l)[a]? = some (3, 2) := fun l => k_get h0
  simp only [gX2_init_0, nX2_init_7, hg, List.append_assoc, List.cons_append, List.nil_append, List.length_append, List.length_cons, List.length_nil, hl, true_and, Nat.reduceAdd]
  refine k_X1 (a := n + 1) (n := n + 2) (k_at 1 hl rfl) (by rw [List.length_append, hl]; rfl) ?_
  simp only [Option.toList_none, gX2_init_20, hg, List.append_assoc, List.cons_append, List.nil_append, List.length_append, List.length_cons, List.length_nil, hl, true_and, Nat.reduceAdd]
  exact k
set_option maxRecDepth 50000 in
theorem k_sh {i m : Nat} (hi : i < 6) (hl : T.length = m) (h0 : T[0]? = some (3, 6)) (h41 : T[41]? = some (2, 6)) (hR : R 0 11 = some 41) (hm : 41 < m) (k : Ex X (d + 2) mX6_init 114 [.ref 0, .int (nI (i + 1))] [] (T ++ [(3, 4), (1, 60)], kZ I m, kZL J (m + 1), kP (kP (kN R m) m 4 (m + 1)) 41 i m) Q) : Ex X (d + 2) mX6_init 114 [.ref 0, .int (nI i)] [] (T, I, J, R) Q := by
  have hlt : ¬ (6 : Int32) ≤ nI i := nI_ge (b := 6) hi (by decide)
  simp only [gX6_init_114, hlt, if_false, gX6_init_120, h0, hR, rf_some, List.append_assoc, List.cons_append, List.nil_append, List.length_append, List.length_cons, List.length_nil, hl, true_and, Nat.reduceAdd]
  refine k_X4 (a := m) (n := m + 1) (k_at 0 hl rfl) (by rw [List.length_append, hl]; rfl) ?_
  simp only [Option.toList_none, List.append_assoc, List.cons_append, List.nil_append]
  rw [nX6_init_132 (rIn_at (k_get h41) hi (by decide)) (k_at 0 hl rfl), nI_clamp (by omega)]
  simp only [gX6_init_132, nI_1]
  exact k
def kI6 (I : tI) : tI := (kZ (kZ (kZ (kZ (kZ (kZ (kZ (kZ (kZ (kZ (kZ (kZ (kZ (kZ (kZ (kZ (kZ (kZ (kZ (kZ (kZ (kZ (kZ (kZ (kS (kZ (kZ (kZ (kZ (kZ (kZ (kZ (kS (kZ (kZ (kZ (kZ (kZ (kZ (kZ (kS (kZ (kZ (kZ (kZ (kZ (kZ (kZ I 1) 2) 3) 4) 5) 6) 7) 1) 8) 9) 10) 11) 12) 13) 14) 8) 15) 16) 17) 18) 19) 20) 21) 15) 22) 23) 25) 26) 27) 28) 29) 30) 31) 32) 33) 34) 35) 36) 37) 38) 39) 40) 42) 44) 46) 48) 50) 52)
def kJ6 (J : tJ) : tJ := (kZL (kZL (kZL (kZL (kZL (kZL (kZL J 24) 43) 45) 47) 49) 51) 53)
def kR6 (R : tR) : tR := (kP (kP (kN (kP (kP (kN (kP (kP (kN (kP (kP (kN (kP (kP (kN (kP (kP (kN (kP (kN (kP (kP (kP (kN (kP (kP (kP (kP (kP (kN (kP (kP (kP (kN (kP (kP (kP (kP (kN (kP (kN (kP (kP (kP (kP (kP (kP (kP (kP (kP (kP (kN (kP (kP (kP (kP (kP (kP (kP (kN (kP (kP (kP (kP (kP (kP (kP (kN R 1) 1 0 2) 1 1 3) 1 2 4) 1 3 5) 1 4 6) 1 5 7) 0 0 1) 8) 8 0 9) 8 1 10) 8 2 11) 8 3 12) 8 4 13) 8 5 14) 0 1 8) 15) 15 0 16) 15 1 17) 15 2 18) 15 3 19) 15 4 20) 15 5 21) 0 2 15) 0 3 22) 0 4 23) 0 6 24) 25) 25 0 26) 27) 27 0 28) 27 1 29) 25 3 27) 0 7 25) 30) 30 0 31) 30 1 32) 0 8 30) 33) 33 0 34) 33 1 35) 33 2 36) 33 3 37) 0 9 33) 38) 38 0 39) 38 1 40) 0 10 38) 41) 0 11 41) 42) 42 4 43) 41 0 42) 44) 44 4 45) 41 1 44) 46) 46 4 47) 41 2 46) 48) 48 4 49) 41 3 48) 50) 50 4 51) 41 4 50) 52) 52 4 53) 41 5 52)
def kT6 : tT := [(3, 3), (0, 8), (0, 8), (0, 8), (0, 8), (0, 7), (0, 8), (3, 3), (0, 8), (0, 8), (0, 8), (0, 8), (0, 7), (0, 8), (3, 3), (0, 8), (0, 8), (0, 8), (0, 8), (0, 7), (0, 8), (0, 5), (0, 5), (1, 7), (3, 2), (0, 120), (3, 1), (0, 121), (0, 121), (3, 1), (0, 121), (0, 121), (3, 0), (0, 40), (0, 40), (0, 40), (0, 40), (3, 5), (0, 50), (0, 24), (2, 6), (3, 4), (1, 60), (3, 4), (1, 60), (3, 4), (1, 60), (3, 4), (1, 60), (3, 4), (1, 60), (3, 4), (1, 60)]
set_option maxRecDepth 50000 in
theorem k_X6 (h0 : T[0]? = some (3, 6)) (hl : T.length = 1) (k : Q none (T ++ kT6, kI6 I, kJ6 J, kR6 R)) : Ex X (d + 3) mX6_init 0 [.ref 0, rU] [] (T, I, J, R) Q := by
  have hg : ∀ l : tT, (T ++ l)[0]? = some (3, 6) := fun l => k_get h0
  simp only [gX6_init_0, h0, hg, List.append_assoc, List.cons_append, List.nil_append, List.length_append, List.length_cons, List.length_nil, hl, true_and, Nat.reduceAdd]
  refine k_X3 (a := 1) (n := 2) (k_at 0 hl rfl) (by rw [List.length_append, hl]; rfl) ?_
  simp only [Option.toList_none, gX6_init_12, h0, hg, List.append_assoc, List.cons_append, List.nil_append, List.length_append, List.length_cons, List.length_nil, hl, true_and, Nat.reduceAdd]
  refine k_X3 (a := 8) (n := 9) (k_at 7 hl rfl) (by rw [List.length_append, hl]; rfl) ?_
  simp only [Option.toList_none, gX6_init_23, h0, hg, List.append_assoc, List.cons_append, List.nil_append, List.length_append, List.length_cons, List.length_nil, hl, true_and, Nat.reduceAdd]
  refine k_X3 (a := 15) (n := 16) (k_at 14 hl rfl) (by rw [List.length_append, hl]; rfl) ?_
  simp only [Option.toList_none, gX6_init_34, nX6_init_39, nX6_init_46, nX6_init_54, h0, hg, List.append_assoc, List.cons_append, List.nil_append, List.length_append, List.length_cons, List.length_nil, hl, true_and, Nat.reduceAdd]
  refine k_X2 (a := 25) (n := 26) (k_at 24 hl rfl) (by rw [List.length_append, hl]; rfl) ?_
  simp only [Option.toList_none, gX6_init_67, h0, hg, List.append_assoc, List.cons_append, List.nil_append, List.length_append, List.length_cons, List.length_nil, hl, true_and, Nat.reduceAdd]
  refine k_X1 (a := 30) (n := 31) (k_at 29 hl rfl) (by rw [List.length_append, hl]; rfl) ?_
  simp only [Option.toList_none, gX6_init_78, h0, hg, List.append_assoc, List.cons_append, List.nil_append, List.length_append, List.length_cons, List.length_nil, hl, true_and, Nat.reduceAdd]
  refine k_X0 (a := 33) (n := 34) (k_at 32 hl rfl) (by rw [List.length_append, hl]; rfl) ?_
  simp only [Option.toList_none, gX6_init_89, h0, hg, List.append_assoc, List.cons_append, List.nil_append, List.length_append, List.length_cons, List.length_nil, hl, true_and, Nat.reduceAdd]
  refine k_X5 (a := 38) (n := 39) (k_at 37 hl rfl) (by rw [List.length_append, hl]; rfl) ?_
  simp only [Option.toList_none, gX6_init_100, nX6_init_106, h0, hg, List.append_assoc, List.cons_append, List.nil_append, List.length_append, List.length_cons, List.length_nil, hl, true_and, Nat.reduceAdd]
  refine k_sh (d := d + 1) (i := 0) (m := 42) (by decide) (by rw [List.length_append, hl]; rfl) (hg _) (k_at 40 hl rfl) rfl (by decide) ?_
  simp only [List.append_assoc, List.cons_append, List.nil_append]
  refine k_sh (d := d + 1) (i := 1) (m := 44) (by decide) (by rw [List.length_append, hl]; rfl) (hg _) (k_at 40 hl rfl) rfl (by decide) ?_
  simp only [List.append_assoc, List.cons_append, List.nil_append]
  refine k_sh (d := d + 1) (i := 2) (m := 46) (by decide) (by rw [List.length_append, hl]; rfl) (hg _) (k_at 40 hl rfl) rfl (by decide) ?_
  simp only [List.append_assoc, List.cons_append, List.nil_append]
  refine k_sh (d := d + 1) (i := 3) (m := 48) (by decide) (by rw [List.length_append, hl]; rfl) (hg _) (k_at 40 hl rfl) rfl (by decide) ?_
  simp only [List.append_assoc, List.cons_append, List.nil_append]
  refine k_sh (d := d + 1) (i := 4) (m := 50) (by decide) (by rw [List.length_append, hl]; rfl) (hg _) (k_at 40 hl rfl) rfl (by decide) ?_
  simp only [List.append_assoc, List.cons_append, List.nil_append]
  refine k_sh (d := d + 1) (i := 5) (m := 52) (by decide) (by rw [List.length_append, hl]; rfl) (hg _) (k_at 40 hl rfl) rfl (by decide) ?_
  simp only [List.append_assoc, List.cons_append, List.nil_append]
  simp only [gX6_init_114, show (6 : Int32) ≤ nI (5 + 1) by decide, if_true, gX6_init_139]
  exact k
end KQ
