/-! PURE: shapes of the class's objects; small sums -/
/-- a River at a: its rows behind it -/
def IsRiv (T : tT) (R : tR) (a : Nat) : Prop := T[a]? = some (3, 3) ∧ T[a + 1]? = some (0, 8) ∧ T[a + 2]? = some (0, 8) ∧ T[a + 3]? = some (0, 8) ∧ T[a + 4]? = some (0, 8) ∧ T[a + 5]? = some (0, 7) ∧ T[a + 6]? = some (0, 8) ∧ R a 0 = some (a + 1) ∧ R a 1 = some (a + 2) ∧ R a 2 = some (a + 3) ∧ R a 3 = some (a + 4) ∧ R a 4 = some (a + 5) ∧ R a 5 = some (a + 6)
theorem rf_some (a : Nat) : va_rf (some a) = .ref a := rfl
theorem rIn_at {T : tT} {a κ n : Nat} {k : Nat} (h : T[a]? = some (κ, n)) (hk : k < n) (hn : n < 2 ^ 31) : rIn T a κ (nI k) := by
  unfold rIn
  rw [h]
  exact ⟨rfl, nI_in hk hn⟩
def sumF (f : Nat → Int32) : Nat → Int32
  | 0 => 0
  | n + 1 => sumF f n + f n
section PB
variable {X : tX} {T : tT} {I : tI} {J : tJ} {R : tR} {Q : tQ} {d a : Nat}
theorem p_levelOfAll {n : Nat} (hv : IsRiv T R a) (hn : I a 8 = nI n) (h8 : n ≤ 8) (k : Q (some (.int (sumF (I (a + 1)) n))) (T, I, J, R)) : Ex X d mX3_levelOfAll 0 [.ref a, rU, rU] [] (T, I, J, R) Q := by
  obtain ⟨t0, t1, t2, t3, t4, t5, t6, r0, r1, r2, r3, r4, r5⟩ := hv
  simp only [gX3_levelOfAll_0]
  have key : ∀ m i, i + m = n → Ex X d mX3_levelOfAll 4 [.ref a, .int (sumF (I (a + 1)) i), .int (nI i)] [] (T, I, J, R) Q := by
    intro m
    induction m with
    | zero =>
      intro i hi
      have h1 : nI n ≤ nI i := nI_le (by omega) (by omega)
      obtain rfl : i = n := by omega
      simp only [gX3_levelOfAll_4, gX3_levelOfAll_27, t0, hn, true_and, h1, if_true]
      exact k
    | succ m ih =>
      intro i hi
      have h1 : ¬ nI n ≤ nI i := nI_ge (by omega) (by omega)
      simp only [gX3_levelOfAll_4, t0, hn, true_and, h1, if_false]
      simp only [gX3_levelOfAll_12, t0, true_and, r0, rf_some, rIn_at t1 (show i < 8 by omega) (by decide), nI_clamp (show i < 2 ^ 31 by omega), nI_1]
      exact ih (i + 1) (by omega)
  exact key n 0 (by omega)
end PB
