/-! PURE: shapes of the class's objects; the LAW's words -/
/-- a River at a: its rows behind it -/
def IsRiv (T : tT) (R : tR) (a : Nat) : Prop := T[a]? = some (3, 3) ∧ T[a + 1]? = some (0, 8) ∧ T[a + 2]? = some (0, 8) ∧ T[a + 3]? = some (0, 8) ∧ T[a + 4]? = some (0, 8) ∧ T[a + 5]? = some (0, 7) ∧ T[a + 6]? = some (0, 8) ∧ R a 0 = some (a + 1) ∧ R a 1 = some (a + 2) ∧ R a 2 = some (a + 3) ∧ R a 3 = some (a + 4) ∧ R a 4 = some (a + 5) ∧ R a 5 = some (a + 6)
/-- a Law at b -/
def IsLaw (T : tT) (R : tR) (b : Nat) : Prop := T[b]? = some (3, 1) ∧ T[b + 1]? = some (0, 121) ∧ T[b + 2]? = some (0, 121) ∧ R b 0 = some (b + 1) ∧ R b 1 = some (b + 2)
theorem rf_some (a : Nat) : va_rf (some a) = .ref a := rfl
theorem rIn_at {T : tT} {a κ n : Nat} {k : Nat} (h : T[a]? = some (κ, n)) (hk : k < n) (hn : n < 2 ^ 31) : rIn T a κ (nI k) := by
  unfold rIn
  rw [h]
  exact ⟨rfl, nI_in hk hn⟩
theorem loop_up {P : Nat → Prop} {n : Nat} (hn : P n) (hs : ∀ i, i < n → P (i + 1) → P i) : ∀ i, i ≤ n → P i := by
  intro i hi
  obtain ⟨k, rfl⟩ : ∃ k, n = i + k := ⟨n - i, by omega⟩
  induction k generalizing i with
  | zero => exact hn
  | succ k ih => exact hs i (by omega) (ih (i + 1) (by rw [show i + 1 + k = i + (k + 1) by omega]; exact hn) (fun j hj hp => hs j (by omega) hp) (by omega))
def sumF (f : Nat → Int32) : Nat → Int32
  | 0 => 0
  | n + 1 => sumF f n + f n
def wi (v l m : Int32) : Int32 := if l < (if m < v then m else v) then (if m < v then m else v) else l
def isN (c : Int32) : Bool := c == 108 || c == 110 || c == 114 || c == 103 || c == 98 || c == 100
/-- two numbers and a sign between them -/
def jn (l s r : Int32) : Int32 :=
  if s = 38 then (if l = 0 then 0 else if r = 0 then 0 else 1) else if s = 42 then l * r else if s = 43 then l + r else if s = 45 then l - r
  else if s = 47 then (if r = 0 then 0 else l / r) else if s = 60 then (if r ≤ l then 0 else 1) else if s = 61 then (if l = r then 1 else 0)
  else if s = 62 then (if l ≤ r then 0 else 1) else if s = 124 then (if l = 0 then (if r = 0 then 0 else 1) else 1) else (if r = 0 then 0 else l - l / r * r)
/-- what a name stands for, at a reach p of the River at a -/
def nmC (I : tI) (a p : Nat) (c : Int32) : Int32 :=
  if c = 98 then I (a + 3) p else if c = 103 then I (a + 4) p else if c = 108 then I (a + 1) p else if c = 110 then (if I a 8 ≤ nI (p + 1) then 0 else I (a + 1) (p + 1)) else if c = 114 then I (a + 5) (I a 7).toNatClampNeg else I a 7
section PB
variable {X : tX} {T : tT} {I : tI} {J : tJ} {R : tR} {Q : tQ} {d a b p n : Nat} {σ : rS}
theorem p_levelOfAll (hv : IsRiv T R a) (hn : I a 8 = nI n) (h8 : n ≤ 8) (k : Q (some (.int (sumF (I (a + 1)) n))) (T, I, J, R)) : Ex X d mX3_levelOfAll 0 [.ref a, rU, rU] [] (T, I, J, R) Q := by
  obtain ⟨t0, t1, t2, t3, t4, t5, t6, r0, r1, r2, r3, r4, r5⟩ := hv
  simp only [gX3_levelOfAll_0]
  refine loop_up (P := fun i => Ex X d mX3_levelOfAll 4 [.ref a, .int (sumF (I (a + 1)) i), .int (nI i)] [] (T, I, J, R) Q) (n := n) ?_ ?_ 0 (by omega)
  · simp only [gX3_levelOfAll_4, gX3_levelOfAll_27, t0, hn, true_and, nI_le (Nat.le_refl n) (by omega), if_true]
    exact k
  · intro i hi ih
    simp only [gX3_levelOfAll_4, t0, hn, true_and, nI_ge hi (by omega), if_false]
    simp only [gX3_levelOfAll_12, t0, true_and, r0, rf_some, rIn_at t1 (show i < 8 by omega) (by decide), nI_clamp (show i < 2 ^ 31 by omega), nI_1]
    exact ih
theorem p_within {v l m : Int32} (k : Q (some (.int (wi v l m))) σ) : Ex X (d + 1) mX6_within 0 [.int v, .int l, .int m] [] σ Q := by
  obtain ⟨T, I, J, R⟩ := σ
  simp only [gX6_within_0]
  exact k
theorem p_isName {c : Int32} (k : Q (some (.int (if isN c = true then 1 else 0))) σ) : Ex X d mX1_isName 0 [.int c] [] σ Q := by
  simp only [gX1_isName_0, gX1_isName_6, gX1_isName_12, gX1_isName_18, gX1_isName_24, gX1_isName_30, gX1_isName_36, gX1_isName_40, gX1_isName_41]
  unfold isN at k
  by_cases h1 : c = 108
  · simpa [h1] using k
  by_cases h2 : c = 110
  · simpa [h2] using k
  by_cases h3 : c = 114
  · simpa [h3] using k
  by_cases h4 : c = 103
  · simpa [h4] using k
  by_cases h5 : c = 98
  · simpa [h5] using k
  by_cases h6 : c = 100
  · simpa [h6] using k
  simpa [h1, h2, h3, h4, h5, h6] using k
theorem p_joined {l s r : Int32} (k : Q (some (.int (jn l s r))) σ) : Ex X d mX1_joined 0 [.int l, .int s, .int r] [] σ Q := by
  simp only [gX1_joined_0, sX1_joined_1]
  unfold jn at k
  by_cases h1 : s = 38
  · simp only [h1, if_true] at k ⊢
    simp only [gX1_joined_98, gX1_joined_102, gX1_joined_106, gX1_joined_110, gX1_joined_111]
    by_cases c1 : l = 0 <;> by_cases c2 : r = 0 <;> simpa [c1, c2] using k
  simp only [h1, if_false] at k ⊢
  by_cases h2 : s = 42
  · simp only [h2, if_true] at k ⊢
    simp only [gX1_joined_153]
    exact k
  simp only [h2, if_false] at k ⊢
  by_cases h3 : s = 43
  · simp only [h3, if_true] at k ⊢
    simp only [gX1_joined_145]
    exact k
  simp only [h3, if_false] at k ⊢
  by_cases h4 : s = 45
  · simp only [h4, if_true] at k ⊢
    simp only [gX1_joined_149]
    exact k
  simp only [h4, if_false] at k ⊢
  by_cases h5 : s = 47
  · simp only [h5, if_true] at k ⊢
    simp only [gX1_joined_157, gX1_joined_161, gX1_joined_165, gX1_joined_168]
    by_cases c2 : r = 0 <;> simpa [c2] using k
  simp only [h5, if_false] at k ⊢
  by_cases h6 : s = 60
  · simp only [h6, if_true] at k ⊢
    simp only [gX1_joined_112, gX1_joined_117, gX1_joined_121, gX1_joined_122]
    by_cases c2 : r ≤ l
    · simp only [c2, if_true] at k ⊢
      exact k
    · simp only [c2, if_false] at k ⊢
      exact k
  simp only [h6, if_false] at k ⊢
  by_cases h7 : s = 61
  · simp only [h7, if_true] at k ⊢
    simp only [gX1_joined_123, gX1_joined_128, gX1_joined_132, gX1_joined_133]
    by_cases c2 : l = r
    · simp only [c2, if_true] at k ⊢
      exact k
    · simp only [c2, if_false] at k ⊢
      exact k
  simp only [h7, if_false] at k ⊢
  by_cases h8 : s = 62
  · simp only [h8, if_true] at k ⊢
    simp only [gX1_joined_134, gX1_joined_139, gX1_joined_143, gX1_joined_144]
    by_cases c2 : l ≤ r
    · simp only [c2, if_true] at k ⊢
      exact k
    · simp only [c2, if_false] at k ⊢
      exact k
  simp only [h8, if_false] at k ⊢
  by_cases h9 : s = 124
  · simp only [h9, if_true] at k ⊢
    simp only [gX1_joined_84, gX1_joined_88, gX1_joined_92, gX1_joined_96, gX1_joined_97]
    by_cases c1 : l = 0 <;> by_cases c2 : r = 0 <;> simpa [c1, c2] using k
  simp only [h9, if_false] at k ⊢
  simp only [gX1_joined_169, gX1_joined_173, gX1_joined_177, gX1_joined_180]
  by_cases c2 : r = 0
  · simpa [c2] using k
  · simp only [c2, if_false, not_false_eq_true, true_and] at k ⊢
    exact k
theorem p_named {c : Int32} (hv : IsRiv T R a) (hn : I a 8 = nI n) (h8 : n ≤ 8) (hp : p < n) (htd : (I a 7).toNatClampNeg < 7) (htd0 : ¬ I a 7 < 0) (k : Q (some (.int (nmC I a p c))) (T, I, J, R)) : Ex X d mX1_named 0 [.int c, .ref a, .int (nI p)] [] (T, I, J, R) Q := by
  obtain ⟨t0, t1, t2, t3, t4, t5, t6, r0, r1, r2, r3, r4, r5⟩ := hv
  have hcl : (nI p).toNatClampNeg = p := nI_clamp (by omega)
  have hcl1 : (nI (p + 1)).toNatClampNeg = p + 1 := nI_clamp (by omega)
  have hin : rIn T (a + 5) 0 (I a 7) := by
    unfold rIn
    rw [t5]
    exact ⟨rfl, fun q => by
      rcases q with q | q
      · exact htd0 q
      · omega⟩
  simp only [gX1_named_0, sX1_named_1]
  unfold nmC at k
  by_cases h1 : c = 98
  · simp only [h1, if_true] at k ⊢
    simp only [gX1_named_99, t0, true_and, r2, rf_some, rIn_at t3 (show p < 8 by omega) (by decide), hcl]
    exact k
  simp only [h1, if_false] at k ⊢
  by_cases h2 : c = 103
  · simp only [h2, if_true] at k ⊢
    simp only [gX1_named_92, t0, true_and, r3, rf_some, rIn_at t4 (show p < 8 by omega) (by decide), hcl]
    exact k
  simp only [h2, if_false] at k ⊢
  by_cases h3 : c = 108
  · simp only [h3, if_true] at k ⊢
    simp only [gX1_named_52, t0, true_and, r0, rf_some, rIn_at t1 (show p < 8 by omega) (by decide), hcl]
    exact k
  simp only [h3, if_false] at k ⊢
  by_cases h4 : c = 110
  · simp only [h4, if_true] at k ⊢
    simp only [gX1_named_59, t0, true_and, nI_1]
    by_cases h5 : I a 8 ≤ nI (p + 1)
    · simp only [h5, if_true] at k ⊢
      simp only [gX1_named_80, gX1_named_81]
      exact k
    · simp only [h5, if_false] at k ⊢
      have h6 : p + 1 < n := by
        refine Classical.byContradiction fun q => h5 ?_
        rw [hn]
        exact nI_le (by omega) (by omega)
      simp only [gX1_named_69, gX1_named_81, t0, true_and, r0, rf_some, nI_1, rIn_at t1 (show p + 1 < 8 by omega) (by decide), hcl1]
      exact k
  simp only [h4, if_false] at k ⊢
  by_cases h5 : c = 114
  · simp only [h5, if_true] at k ⊢
    simp only [gX1_named_82, t0, true_and, r4, rf_some, hin]
    exact k
  simp only [h5, if_false] at k ⊢
  simp only [gX1_named_106, t0, true_and]
  exact k
theorem p_withoutText (hv : IsRiv T R a) (hp : p < 8) (k : Q (some (.int (I (a + 1) p / 5 - 2 * I (a + 3) p - I (a + 4) p / 3))) (T, I, J, R)) : Ex X d mX1_withoutText 0 [.ref a, .int (nI p)] [] (T, I, J, R) Q := by
  obtain ⟨t0, t1, t2, t3, t4, t5, t6, r0, r1, r2, r3, r4, r5⟩ := hv
  have hcl : (nI p).toNatClampNeg = p := nI_clamp (by omega)
  simp only [gX1_withoutText_0, t0, true_and, r0, r2, r3, rf_some, rIn_at t1 hp (by decide), rIn_at t3 hp (by decide), rIn_at t4 hp (by decide), hcl, show ¬ (5 : Int32) = 0 by decide, show ¬ (3 : Int32) = 0 by decide, not_false_eq_true]
  exact k
end PB
