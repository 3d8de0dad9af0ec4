/-! PURE: hears, odd: the ANSWERS counted by the class -/
def anS (el : Nat → Int64) (a ro : Int32) : Nat → Nat → Int32 → Int32
  | 0, _, s => s
  | m + 1, i, s => if inB (el (2 * i)).toInt32 0 1 = true ∧ inB (el (2 * i + 1)).toInt32 0 2 = true then anS el a ro m (i + 1) (s + (if (el (2 * i)).toInt32 = a ∧ (if (el (2 * i + 1)).toInt32 = 1 then 1 else 0) = ro then 1 else 0)) else s
section HE
variable {X : tX} {T : tT} {I I' : tI} {J : tJ} {R : tR} {Q : tQ} {d a b c n s ln : Nat} {σ : rS} {el : Nat → Int64} {l : tL} {r q : Nat → Nat → Int32}
theorem c_answersOf {as ro : Int32} (hS : CSh T I J R s (nI 0) ln el) (k : Q (some (.int (anS el as ro (min (ln / 2) 20) 0 0))) (T, I, J, R)) : Ex X (d + 1) mX6_answersOf 0 [.ref (42 + 2 * s), .int as, .int ro, rU, rU, rU, rU, rU] [] (T, I, J, R) Q := by
  have hS' := hS
  obtain ⟨t0, t1, r4, hh⟩ := hS
  have e3 : I (42 + 2 * s) 3 = nI ln ∧ ln ≤ 60 := by
    rcases hh with ⟨z, e0⟩ | ⟨j', hj', ej, e0, e2, e3, hl, hel⟩ | ⟨j', hj', ej, e0, e1⟩
    · exact absurd z (by decide)
    · exact ⟨e3, hl⟩
    · rw [nI_eq (by omega) (by omega)] at ej
      omega
  obtain ⟨e3, hl⟩ := e3
  have n2 : ¬ (2 : Int32) = 0 := by decide
  have ed : nI ln / 2 = nI (ln / 2) := z_div (b := 2) (by omega) (by decide)
  have emin : (if (20 : Int32) < nI (ln / 2) then 20 else nI (ln / 2)) = nI (min (ln / 2) 20) := by
    by_cases e : 20 < ln / 2
    · rw [if_pos (show (20 : Int32) < nI (ln / 2) from nI_lt (a := 20) e (by omega)), Nat.min_eq_right (by omega)]
      rfl
    · rw [if_neg (show ¬ (20 : Int32) < nI (ln / 2) from nI_nlt (a := 20) (by omega) (by decide)), Nat.min_eq_left (by omega)]
  have hM1 : min (ln / 2) 20 ≤ ln / 2 := Nat.min_le_left _ _
  simp only [gX6_answersOf_0, t0, true_and, e3, n2, not_false_eq_true, ed, emin]
  generalize min (ln / 2) 20 = M at k hM1
  have e2m : ∀ x : Nat, (2 : Int32) * nI x = nI (2 * x) := fun x => z_mul 2 x
  have loop : ∀ (m i : Nat) (v : Int32) (v6 v7 : Value), i + m = M → Q (some (.int (anS el as ro m i v))) (T, I, J, R) → Ex X (d + 1) mX6_answersOf 18 [.ref (42 + 2 * s), .int as, .int ro, .int (nI M), .int v, .int (nI i), v6, v7] [] (T, I, J, R) Q := by
    intro m
    induction m with
    | zero =>
      intro i v v6 v7 hi k
      simp only [gX6_answersOf_18, nI_le (show M ≤ i by omega) (by omega), if_true, gX6_answersOf_108]
      exact k
    | succ m ih =>
      intro i v v6 v7 hi k
      simp only [gX6_answersOf_18, nI_ge (show i < M by omega) (by omega), if_false]
      simp only [gX6_answersOf_24, e2m, t0, true_and]
      refine c_small hS' (by decide) (show 2 * i < ln by omega) ?_
      simp only [Option.toList_some, List.cons_append, List.nil_append, gX6_answersOf_32, e2m, nI_1, t0, true_and]
      refine c_small hS' (by decide) (show 2 * i + 1 < ln by omega) ?_
      rw [anS] at k
      generalize (el (2 * i)).toInt32 = u at k ⊢
      generalize (el (2 * i + 1)).toInt32 = w at k ⊢
      simp only [Option.toList_some, List.cons_append, List.nil_append, gX6_answersOf_44, gX6_answersOf_51, gX6_answersOf_57, gX6_answersOf_62]
      by_cases c : inB u 0 1 = true ∧ inB w 0 2 = true
      · rw [if_pos c] at k
        obtain ⟨u1, u2⟩ := of_decide_eq_true c.1
        obtain ⟨w1, w2⟩ := of_decide_eq_true c.2
        simp only [u1, u2, w1, Int32.not_lt.mp w2, if_false, if_true, gX6_answersOf_71, ne_eq]
        by_cases g1 : u = as
        · simp only [g1, not_true_eq_false, if_false, gX6_answersOf_79, true_and, ne_eq] at k ⊢
          by_cases g2 : w = 1
          · simp only [g2, not_true_eq_false, if_false, if_true, gX6_answersOf_85, gX6_answersOf_90, ne_eq] at k ⊢
            by_cases g3 : (1 : Int32) = ro
            · have g4 : ((1 : Int32) = ro) = True := eq_true g3
              simp only [g4, not_true_eq_false, if_false, if_true, gX6_answersOf_94, gX6_answersOf_99, nI_1] at k ⊢
              exact ih (i + 1) _ _ _ (by omega) k
            · simp only [g3, not_false_eq_true, if_false, if_true, gX6_answersOf_98, gX6_answersOf_99, nI_1] at k ⊢
              exact ih (i + 1) _ _ _ (by omega) k
          · simp only [g2, not_false_eq_true, if_false, if_true, gX6_answersOf_89, gX6_answersOf_90, ne_eq] at k ⊢
            by_cases g3 : (0 : Int32) = ro
            · have g4 : ((0 : Int32) = ro) = True := eq_true g3
              simp only [g4, not_true_eq_false, if_false, if_true, gX6_answersOf_94, gX6_answersOf_99, nI_1] at k ⊢
              exact ih (i + 1) _ _ _ (by omega) k
            · simp only [g3, not_false_eq_true, if_false, if_true, gX6_answersOf_98, gX6_answersOf_99, nI_1] at k ⊢
              exact ih (i + 1) _ _ _ (by omega) k
        · simp only [g1, false_and, not_false_eq_true, if_false, if_true, gX6_answersOf_98, gX6_answersOf_99, nI_1] at k ⊢
          exact ih (i + 1) _ _ _ (by omega) k
      · rw [if_neg c] at k
        have bad : Ex X (d + 1) mX6_answersOf 68 [.ref (42 + 2 * s), .int as, .int ro, .int (nI M), .int v, .int (nI i), .int u, .int w] [] (T, I, J, R) Q := by
          simp only [gX6_answersOf_68]
          exact k
        repeat' first | exact bad | split
        exact absurd ⟨decide_eq_true ⟨‹_›, ‹_›⟩, decide_eq_true ⟨‹_›, Int32.not_lt.mpr ‹_›⟩⟩ c
  exact loop M 0 0 rU rU (by omega) k
end HE
