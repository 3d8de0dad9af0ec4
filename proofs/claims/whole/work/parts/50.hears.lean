/-! PURE: hears, odd: the ANSWERS counted by the class -/
def anS (el : Nat → Int64) (a ro : Int32) : Nat → Nat → Int32 → Int32
  | 0, _, s => s
  | m + 1, i, s => if inB (el (2 * i)).toInt32 0 1 = true ∧ inB (el (2 * i + 1)).toInt32 0 2 = true then anS el a ro m (i + 1) (s + (if (el (2 * i)).toInt32 = a ∧ (if (el (2 * i + 1)).toInt32 = 1 then 1 else 0) = ro then 1 else 0)) else s
section HE
variable {X : tX} {T : tT} {I I' : tI} {J : tJ} {R : tR} {Q : tQ} {d a b c n s ln : Nat} {σ : rS} {el : Nat → Int64} {l : tL} {r q : Nat → Nat → Int32}
theorem c_answersOf {as ro : Int32} (hS : CSh T I J R s (nI 0) ln el) (k : Q (some (.int (anS el as ro (min (ln / 2) 20) 0 0))) (T, I, J, R)) : Ex X (d + 1) mX6_answersOf 0 [.ref (42 + 2 * s), .int as, .int ro, rU, rU, rU, rU, rU] [] (T, I, J, R) Q := by
  have hS' := hS
  obtain ⟨t0, t1, r4, hh⟩ := hS
  have e3 : I (42 + 2 * s) 3 = nI ln ∧ ln ≤ 60 := by
    rcases hh with ⟨z, e0⟩ | ⟨j', hj', ej, e0, e2, e3, hl, hel⟩ | ⟨j', hj', ej, e0, e1⟩
    · exact absurd z (by decide)
    · exact ⟨e3, hl⟩
    · rw [nI_eq (by omega) (by omega)] at ej
      omega
  obtain ⟨e3, hl⟩ := e3
  have n2 : ¬ (2 : Int32) = 0 := by decide
  have ed : nI ln / 2 = nI (ln / 2) := z_div (b := 2) (by omega) (by decide)
  have emin : (if (20 : Int32) < nI (ln / 2) then 20 else nI (ln / 2)) = nI (min (ln / 2) 20) := by
    by_cases e : 20 < ln / 2
    · rw [if_pos (show (20 : Int32) < nI (ln / 2) from nI_lt (a := 20) e (by omega)), Nat.min_eq_right (by omega)]
      rfl
    · rw [if_neg (show ¬ (20 : Int32) < nI (ln / 2) from nI_nlt (a := 20) (by omega) (by decide)), Nat.min_eq_left (by omega)]
  have hM1 : min (ln / 2) 20 ≤ ln / 2 := Nat.min_le_left _ _
  simp only [gX6_answersOf_0, t0, true_and, e3, n2, not_false_eq_true, ed, emin]
  generalize min (ln / 2) 20 = M at k hM1
  have e2m : ∀ x : Nat, (2 : Int32) * nI x = nI (2 * x) := fun x => z_mul 2 x
  have loop : ∀ (m i : Nat) (v : Int32) (v6 v7 : Value), i + m = M → Q (some (.int (anS el as ro m i v))) (T, I, J, R) → Ex X (d + 1) mX6_answersOf 18 [.ref (42 + 2 * s), .int as, .int ro, .int (nI M), .int v, .int (nI i), v6, v7] [] (T, I, J, R) Q := by
    intro m
    induction m with
    | zero =>
      intro i v v6 v7 hi k
      simp only [gX6_answersOf_18, nI_le (show M ≤ i by omega) (by omega), if_true, gX6_answersOf_108]
      exact k
    | succ m ih =>
      intro i v v6 v7 hi k
      simp only [gX6_answersOf_18, nI_ge (show i < M by omega) (by omega), if_false]
      simp only [gX6_answersOf_24, e2m, t0, true_and]
      refine c_small hS' (by decide) (show 2 * i < ln by omega) ?_
      simp only [Option.toList_some, List.cons_append, List.nil_append, gX6_answersOf_32, e2m, nI_1, t0, true_and]
      refine c_small hS' (by decide) (show 2 * i + 1 < ln by omega) ?_
      rw [anS] at k
      generalize (el (2 * i)).toInt32 = u at k ⊢
      generalize (el (2 * i + 1)).toInt32 = w at k ⊢
      simp only [Option.toList_some, List.cons_append, List.nil_append, gX6_answersOf_44, gX6_answersOf_51, gX6_answersOf_57, gX6_answersOf_62]
      by_cases c : inB u 0 1 = true ∧ inB w 0 2 = true
      · rw [if_pos c] at k
        obtain ⟨u1, u2⟩ := of_decide_eq_true c.1
        obtain ⟨w1, w2⟩ := of_decide_eq_true c.2
        simp only [u1, u2, w1, Int32.not_lt.mp w2, if_false, if_true, gX6_answersOf_71, ne_eq]
        by_cases g1 : u = as
        · simp only [g1, not_true_eq_false, if_false, gX6_answersOf_79, true_and, ne_eq] at k ⊢
          by_cases g2 : w = 1
          · simp only [g2, not_true_eq_false, if_false, if_true, gX6_answersOf_85, gX6_answersOf_90, ne_eq] at k ⊢
            by_cases g3 : (1 : Int32) = ro
            · have g4 : ((1 : Int32) = ro) = True := eq_true g3
              simp only [g4, not_true_eq_false, if_false, if_true, gX6_answersOf_94, gX6_answersOf_99, nI_1] at k ⊢
              exact ih (i + 1) _ _ _ (by omega) k
            · simp only [g3, not_false_eq_true, if_false, if_true, gX6_answersOf_98, gX6_answersOf_99, nI_1] at k ⊢
              exact ih (i + 1) _ _ _ (by omega) k
          · simp only [g2, not_false_eq_true, if_false, if_true, gX6_answersOf_89, gX6_answersOf_90, ne_eq] at k ⊢
            by_cases g3 : (0 : Int32) = ro
            · have g4 : ((0 : Int32) = ro) = True := eq_true g3
              simp only [g4, not_true_eq_false, if_false, if_true, gX6_answersOf_94, gX6_answersOf_99, nI_1] at k ⊢
              exact ih (i + 1) _ _ _ (by omega) k
            · simp only [g3, not_false_eq_true, if_false, if_true, gX6_answersOf_98, gX6_answersOf_99, nI_1] at k ⊢
              exact ih (i + 1) _ _ _ (by omega) k
        · simp only [g1, false_and, not_false_eq_true, if_false, if_true, gX6_answersOf_98, gX6_answersOf_99, nI_1] at k ⊢
          exact ih (i + 1) _ _ _ (by omega) k
      · rw [if_neg c] at k
        have bad : Ex X (d + 1) mX6_answersOf 68 [.ref (42 + 2 * s), .int as, .int ro, .int (nI M), .int v, .int (nI i), .int u, .int w] [] (T, I, J, R) Q := by
          simp only [gX6_answersOf_68]
          exact k
        repeat' first | exact bad | split
        exact absurd ⟨decide_eq_true ⟨‹_›, ‹_›⟩, decide_eq_true ⟨‹_›, Int32.not_lt.mpr ‹_›⟩⟩ c
  exact loop M 0 0 rU rU (by omega) k
theorem m_hear {hk : Int32} (hm : IsMod T R) (hS : MSh I J s hk ln el) (hs : s < 6) (h0 : hk = 0) (k : ∀ I' : tI, (∀ x, x ≠ 82 → I' x = I x) → I' 82 0 = anS el 1 1 (min (ln / 2) 20) 0 0 → I' 82 1 = anS el 1 0 (min (ln / 2) 20) 0 0 → I' 82 2 = anS el 0 1 (min (ln / 2) 20) 0 0 → Q (some (.int 1)) (T, I', J, R)) : Ex X (d + 2) mX7_hear 0 [.ref 54, .int (nI s), rU, rU] [] (T, I, J, R) Q := by
  have t0 := mt_54 hm
  have t82 := mt_82 hm
  have hS' := hS
  obtain ⟨e1, e2, hl, hel⟩ := hS
  have i75 : rIn T 75 0 (nI s) := rIn_at (mt_75 hm) hs (by decide)
  have i76 : rIn T 76 0 (nI s) := rIn_at (mt_76 hm) hs (by decide)
  have cs : (nI s).toNatClampNeg = s := nI_clamp (by omega)
  have q0 : rIn T 82 0 0 := rIn_at (k := 0) t82 (by decide) (by decide)
  have q1 : rIn T 82 0 1 := rIn_at (k := 1) t82 (by decide) (by decide)
  have q2 : rIn T 82 0 2 := rIn_at (k := 2) t82 (by decide) (by decide)
  have c1 : (1 : Int32).toNatClampNeg = 1 := by decide
  have c2 : (2 : Int32).toNatClampNeg = 2 := by decide
  have hsh : inB (nI s) 0 5 = true := decide_eq_true ⟨nI_pos (by omega), nI_nlt (a := 5) (by omega) (by decide)⟩
  have hM1 : min (ln / 2) 20 ≤ ln / 2 := Nat.min_le_left _ _
  have hM2 : min (ln / 2) 20 ≤ 20 := Nat.min_le_right _ _
  have hM3 : min (ln / 2) 20 = ln / 2 ∨ min (ln / 2) 20 = 20 := by omega
  generalize min (ln / 2) 20 = M at k hM1 hM2 hM3
  have fS : ∀ I1 : tI, (∀ x, x ≠ 82 → I1 x = I x) → MSh I1 J s hk ln el := fun I1 hf => ⟨by rw [hf 75 (by decide)]; exact e1, by rw [hf 76 (by decide)]; exact e2, hl, hel⟩
  have loop : ∀ (m j : Nat) (I1 : tI) (a0 a1 a2 : Int32) (v3 : Value), j + m = M → (∀ x, x ≠ 82 → I1 x = I x) → I1 82 0 = a0 → I1 82 1 = a1 → I1 82 2 = a2 → (∀ I' : tI, (∀ x, x ≠ 82 → I' x = I x) → I' 82 0 = anS el 1 1 m j a0 → I' 82 1 = anS el 1 0 m j a1 → I' 82 2 = anS el 0 1 m j a2 → Q (some (.int 1)) (T, I', J, R)) → Ex X (d + 2) mX7_hear 40 [.ref 54, .int (nI s), .int (nI (2 * j)), v3] [] (T, I1, J, R) Q := by
    intro m
    induction m with
    | zero =>
      intro j I1 a0 a1 a2 v3 hj hf1 b0 b1 b2 k
      have kk := k I1 hf1 b0 b1 b2
      simp only [gX7_hear_40]
      by_cases g : (40 : Int32) ≤ nI (2 * j)
      · simp only [g, if_true, gX7_hear_159, or_true, true_and]
        exact kk
      · have : nI ln < nI (2 * j + 2) := by
          have : ¬ 40 ≤ 2 * j := fun z => g (nI_le (a := 40) z (by omega))
          exact nI_lt (by omega) (by omega)
        have e : nI (2 * j) + 2 = nI (2 * j + 2) := nI_add (2 * j) 2
        simp only [g, if_false, gX7_hear_46, e, t0, true_and, mr_35 hm, rf_some, i76, cs, hf1 76 (by decide), e2, this, if_true, gX7_hear_159, or_true]
        exact kk
    | succ m ih =>
      intro j I1 a0 a1 a2 v3 hj hf1 b0 b1 b2 k
      have e : nI (2 * j) + 2 = nI (2 * j + 2) := nI_add (2 * j) 2
      have hS1 := fS I1 hf1
      simp only [gX7_hear_40, show ¬ (40 : Int32) ≤ nI (2 * j) from nI_ge (b := 40) (by omega) (by decide), if_false]
      simp only [gX7_hear_46, e, t0, true_and, mr_35 hm, rf_some, i76, cs, hf1 76 (by decide), e2, show ¬ nI ln < nI (2 * j + 2) from nI_nlt (by omega) (by omega), if_false]
      simp only [gX7_hear_58, t0, true_and]
      refine m_toldAt hm hS1 hs (show 2 * j < ln by omega) ?_
      rw [anS, anS, anS] at k
      simp only [Option.toList_some, List.cons_append, List.nil_append, gX7_hear_64]
      refine s_within ?_
      simp only [Option.toList_some, List.cons_append, List.nil_append, gX7_hear_69, if10]
      have stop : ¬ (inB (el (2 * j)).toInt32 0 1 = true ∧ inB (el (2 * j + 1)).toInt32 0 2 = true) → Ex X (d + 2) mX7_hear 88 [.ref 54, .int (nI s), .int (nI (2 * j)), v3] [] (T, I1, J, R) Q := by
        intro c
        rw [if_neg c, if_neg c, if_neg c] at k
        simp only [gX7_hear_88, or_true, true_and]
        exact k I1 hf1 b0 b1 b2
      cases g1 : inB (el (2 * j)).toInt32 0 1 with
      | false =>
        simp only [if_true]
        exact stop (by rw [g1]; simp)
      | true =>
      simp only [reduceCtorEq, if_false, gX7_hear_72, nI_1, t0, true_and]
      refine m_toldAt hm hS1 hs (show 2 * j + 1 < ln by omega) ?_
      simp only [Option.toList_some, List.cons_append, List.nil_append, gX7_hear_80]
      refine s_within ?_
      simp only [Option.toList_some, List.cons_append, List.nil_append, gX7_hear_85, ne_eq, if10]
      cases g2 : inB (el (2 * j + 1)).toInt32 0 2 with
      | false =>
        simp only [not_true_eq_false, if_false]
        exact stop (by rw [g2]; simp)
      | true =>
      have c := And.intro g1 g2
      rw [if_pos c, if_pos c, if_pos c] at k
      have next : ∀ (I2 : tI) (v3 : Int32), (∀ x, x ≠ 82 → I2 x = I x) → I2 82 0 = a0 + (if (el (2 * j)).toInt32 = 1 ∧ (if (el (2 * j + 1)).toInt32 = 1 then 1 else 0) = (1 : Int32) then 1 else 0) → I2 82 1 = a1 + (if (el (2 * j)).toInt32 = 1 ∧ (if (el (2 * j + 1)).toInt32 = 1 then 1 else 0) = (0 : Int32) then 1 else 0) → I2 82 2 = a2 + (if (el (2 * j)).toInt32 = 0 ∧ (if (el (2 * j + 1)).toInt32 = 1 then 1 else 0) = (1 : Int32) then 1 else 0) → Ex X (d + 2) mX7_hear 153 [.ref 54, .int (nI s), .int (nI (2 * j)), .int v3] [] (T, I2, J, R) Q := by
        intro I2 v3 hf2 f0 f1 f2
        simp only [gX7_hear_153, e]
        exact ih (j + 1) I2 _ _ _ _ (by omega) hf2 f0 f1 f2 k
      have fr : ∀ v : Nat → Int32, ∀ x, x ≠ 82 → va_up I1 82 v x = I x := fun v x hx => by rw [up_ne _ _ hx]; exact hf1 x hx
      have u01 : ¬ (el (2 * j)).toInt32 = 1 → (el (2 * j)).toInt32 = 0 := by
        intro z
        obtain ⟨v, hv, ev⟩ := nI_of2 (x := (el (2 * j)).toInt32) (M := 1) (n := 1) (by decide) (of_decide_eq_true g1).1 (Int32.not_lt.mp (of_decide_eq_true g1).2)
        have : v = 0 ∨ v = 1 := by omega
        rcases this with rfl | rfl
        · exact ev
        · exact absurd ev z
      have n01 : ¬ (0 : Int32) = 1 := by decide
      have n10 : ¬ (1 : Int32) = 0 := by decide
      simp only [reduceCtorEq, not_false_eq_true, if_true, gX7_hear_90, nI_1, t0, true_and]
      refine m_toldAt hm hS1 hs (show 2 * j + 1 < ln by omega) ?_
      simp only [Option.toList_some, List.cons_append, List.nil_append, gX7_hear_98, ne_eq]
      by_cases w1 : (el (2 * j + 1)).toInt32 = 1
      · simp only [w1, not_true_eq_false, if_false, if_true, gX7_hear_102, gX7_hear_107, t0, true_and] at next ⊢
        refine m_toldAt hm hS1 hs (show 2 * j < ln by omega) ?_
        simp only [Option.toList_some, List.cons_append, List.nil_append, gX7_hear_114, ne_eq]
        by_cases u1 : (el (2 * j)).toInt32 = 1
        · simp only [u1, not_true_eq_false, if_false, if_true, gX7_hear_118, t0, true_and, mr_41 hm, rf_some, n10, gX7_hear_126, gX7_hear_131, q0, clamp_0, and_self, and_false, n01, false_and, Int32.add_zero] at next ⊢
          exact next _ _ (fr _) (by rw [up_self, up_self, b0]) (by rw [up_self, up_ne _ _ (by decide)]; exact b1) (by rw [up_self, up_ne _ _ (by decide)]; exact b2)
        · have u0 := u01 u1
          simp only [u0, n01, not_false_eq_true, if_true, gX7_hear_139, n10, if_false, gX7_hear_143, t0, true_and, mr_41 hm, rf_some, q2, c2, and_self, false_and, Int32.add_zero] at next ⊢
          exact next _ _ (fr _) (by rw [up_self, up_ne _ _ (by decide)]; exact b0) (by rw [up_self, up_ne _ _ (by decide)]; exact b1) (by rw [up_self, up_self, b2])
      · simp only [w1, not_false_eq_true, if_false, if_true, gX7_hear_106, gX7_hear_107, t0, true_and] at next ⊢
        refine m_toldAt hm hS1 hs (show 2 * j < ln by omega) ?_
        simp only [Option.toList_some, List.cons_append, List.nil_append, gX7_hear_114, ne_eq]
        by_cases u1 : (el (2 * j)).toInt32 = 1
        · simp only [u1, not_true_eq_false, if_false, if_true, gX7_hear_118, t0, true_and, mr_41 hm, rf_some, gX7_hear_130, gX7_hear_131, q1, c1, and_self, and_false, n01, n10, false_and, Int32.add_zero] at next ⊢
          exact next _ _ (fr _) (by rw [up_self, up_ne _ _ (by decide)]; exact b0) (by rw [up_self, up_self, b1]) (by rw [up_self, up_ne _ _ (by decide)]; exact b2)
        · have u0 := u01 u1
          simp only [u0, n01, not_false_eq_true, if_true, gX7_hear_139, if_false, and_false, false_and, Int32.add_zero] at next ⊢
          exact next I1 _ hf1 b0 b1 b2
  simp only [gX7_hear_0]
  refine m_isShelf ?_
  simp only [Option.toList_some, List.cons_append, List.nil_append, gX7_hear_4, if10, hsh, reduceCtorEq, if_false, gX7_hear_7, t0, true_and, mr_34 hm, rf_some, i75, cs, e1, h0, if_true, gX7_hear_18]
  simp only [gX7_hear_20, show ¬ (3 : Int32) ≤ 0 by decide, if_false]
  simp only [gX7_hear_25, t0, true_and, mr_41 hm, rf_some, q0, clamp_0, show (0 : Int32) + 1 = 1 by decide]
  simp only [gX7_hear_20, show ¬ (3 : Int32) ≤ 1 by decide, if_false]
  simp only [gX7_hear_25, t0, true_and, mr_41 hm, rf_some, q1, c1, show (1 : Int32) + 1 = 2 by decide]
  simp only [gX7_hear_20, show ¬ (3 : Int32) ≤ 2 by decide, if_false]
  simp only [gX7_hear_25, t0, true_and, mr_41 hm, rf_some, q2, c2, show (2 : Int32) + 1 = 3 by decide]
  simp only [gX7_hear_20, show (3 : Int32) ≤ 3 by decide, if_true, gX7_hear_38]
  refine loop M 0 _ 0 0 0 rU (by omega) (fun x hx => by rw [up_ne _ _ hx, up_ne _ _ hx, up_ne _ _ hx]) ?_ ?_ ?_ k
  · simp [va_up]
  · simp [va_up]
  · simp [va_up]
end HE
