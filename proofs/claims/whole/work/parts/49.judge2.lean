/-! PURE: judge, on both sides -/
def HSh (T : tT) (R : tR) : Prop := T[41]? = some (2, 6) ∧ R 0 11 = some 41 ∧ ∀ s, s < 6 → R 41 s = some (42 + 2 * s)
def judgeF (n : Nat) (l : tL) (r : Nat → Nat → Int32) (hk : Nat → Int32) (ln : Nat → Nat) (el : Nat → Nat → Int64) (s p : Int32) : Int32 := if inB s 0 5 = true ∧ isR n p = true then judgeS n l r (hk s.toNatClampNeg) (ln s.toNatClampNeg) (el s.toNatClampNeg) p.toNatClampNeg else -1
theorem inB_5 {s : Int32} (h : inB s 0 5 = true) : ∃ j : Nat, j < 6 ∧ s = nI j := by
  obtain ⟨h1, h2⟩ := of_decide_eq_true h
  obtain ⟨j, hj, rfl⟩ := nI_of2 (x := s) (M := 5) (n := 5) (by decide) h1 (Int32.not_lt.mp h2)
  exact ⟨j, by omega, rfl⟩
section J2
variable {X : tX} {T : tT} {I I' : tI} {J : tJ} {R : tR} {Q : tQ} {d a b c n : Nat} {σ : rS} {hk : Nat → Int32} {ln : Nat → Nat} {el : Nat → Nat → Int64} {l : tL} {r q : Nat → Nat → Int32}
theorem c_judge {s p : Int32} (h : HS T I R b n l r) (hh : HSh T R) (hS : ∀ s, s < 6 → CSh T I J R s (hk s) (ln s) (el s)) (k : ∀ I' : tI, frC b I I' → Q (some (.int (judgeF n l r hk ln el s p))) (T, I', J, R)) : Ex X (d + 6) mX6_judge 0 [.ref 0, .int s, .int p] [] (T, I, J, R) Q := by
  have h' := h
  have h8 := HS_8 h
  obtain ⟨h0, r0, r1, r8, hb, hb2, hv, hC⟩ := h
  obtain ⟨t41, r11, r41⟩ := hh
  have bad : ¬ (inB s 0 5 = true ∧ isR n p = true) → Ex X (d + 6) mX6_judge 15 [.ref 0, .int s, .int p] [] (T, I, J, R) Q := by
    intro c
    simp only [gX6_judge_15]
    have := k I (frC_r b I)
    rw [judgeF, if_neg c] at this
    exact this
  simp only [gX6_judge_0]
  refine c_isShelf ?_
  simp only [Option.toList_some, List.cons_append, List.nil_append, gX6_judge_4, if10]
  cases g1 : inB s 0 5 with
  | false =>
    simp only [if_true]
    exact bad (by rw [g1]; simp)
  | true =>
  simp only [reduceCtorEq, if_false, gX6_judge_7, h0, true_and]
  refine c_isReach h' ?_
  simp only [Option.toList_some, List.cons_append, List.nil_append, gX6_judge_12, ne_eq, if10]
  cases g2 : isR n p with
  | false =>
    simp only [not_true_eq_false, if_false]
    exact bad (by rw [g2]; simp)
  | true =>
  rw [judgeF, if_pos ⟨g1, g2⟩] at k
  obtain ⟨s, hs, rfl⟩ := inB_5 g1
  obtain ⟨p, hp, rfl⟩ := isR_t g2 h8
  rw [nI_clamp (show s < 2 ^ 31 by omega), nI_clamp (show p < 2 ^ 31 by omega)] at k
  have hSs := hS s hs
  simp only [reduceCtorEq, not_false_eq_true, if_true, gX6_judge_17, h0, true_and, r11, rf_some, rIn_at t41 hs (by decide), nI_clamp (show s < 2 ^ 31 by omega), r41 s hs, hSs.1]
  refine c_isBytes hSs ?_
  unfold judgeS at k
  simp only [Option.toList_some, List.cons_append, List.nil_append, gX6_judge_26, ne_eq]
  by_cases g3 : hk s = 0
  · simp only [g3, if_true, show ¬ (1 : Int32) = 0 by decide, not_false_eq_true, gX6_judge_49, h0, true_and, r0, r1, rf_some, hv.1] at k ⊢
    refine c_take h' (fun I1 hf1 hC1 => ?_)
    simp only [Option.toList_none, List.nil_append, gX6_judge_60, h0, true_and, r11, rf_some, rIn_at t41 hs (by decide), nI_clamp (show s < 2 ^ 31 by omega), r41 s hs]
    rw [g3] at hSs
    refine c_firstUnlike (HS_fr h' hf1) hC1 (CSh_fr hSs hb2 hf1) hp (fun I2 hf2 => ?_)
    simp only [Option.toList_some, List.cons_append, List.nil_append, gX6_judge_71]
    exact k I2 (frC_t hf1 hf2)
  · simp only [g3, if_false, not_true_eq_false, gX6_judge_29, h0, true_and, r11, rf_some, rIn_at t41 hs (by decide), nI_clamp (show s < 2 ^ 31 by omega), r41 s hs, hSs.1] at k ⊢
    refine c_isBare hSs ?_
    simp only [Option.toList_some, List.cons_append, List.nil_append, gX6_judge_38]
    by_cases g4 : hk s = -1
    · simp only [g4, if_true, show ¬ (1 : Int32) = 0 by decide, if_false, gX6_judge_41, gX6_judge_48] at k ⊢
      exact k I (frC_r b I)
    · simp only [g4, if_false, if_true, gX6_judge_46, gX6_judge_48] at k ⊢
      exact k I (frC_r b I)
theorem m_judge {s p : Int32} (h : MS T I R n l r) (hS : ∀ s, s < 6 → MSh I J s (hk s) (ln s) (el s)) (k : ∀ I' : tI, frM I I' → MS T I' R n l r → Q (some (.int (judgeF n l r hk ln el s p))) (T, I', J, R)) : Ex X (d + 7) mX7_judge 0 [.ref 54, .int s, .int p, rU] [] (T, I, J, R) Q := by
  have h8 := MS_8 h
  have hm := h.1
  have t0 := mt_54 hm
  have bad : ¬ (inB s 0 5 = true ∧ isR n p = true) → Ex X (d + 7) mX7_judge 15 [.ref 54, .int s, .int p, rU] [] (T, I, J, R) Q := by
    intro c
    simp only [gX7_judge_15]
    have := k I (frM_r I) h
    rw [judgeF, if_neg c] at this
    exact this
  simp only [gX7_judge_0]
  refine m_isShelf ?_
  simp only [Option.toList_some, List.cons_append, List.nil_append, gX7_judge_4, if10]
  cases g1 : inB s 0 5 with
  | false =>
    simp only [if_true]
    exact bad (by rw [g1]; simp)
  | true =>
  simp only [reduceCtorEq, if_false, gX7_judge_7, t0, true_and]
  refine s_isOne h ?_
  simp only [Option.toList_some, List.cons_append, List.nil_append, gX7_judge_12, ne_eq, if10]
  cases g2 : isR n p with
  | false =>
    simp only [not_true_eq_false, if_false]
    exact bad (by rw [g2]; simp)
  | true =>
  rw [judgeF, if_pos ⟨g1, g2⟩] at k
  obtain ⟨s, hs, rfl⟩ := inB_5 g1
  obtain ⟨p, hp, rfl⟩ := isR_t g2 h8
  rw [nI_clamp (show s < 2 ^ 31 by omega), nI_clamp (show p < 2 ^ 31 by omega)] at k
  have hSs := hS s hs
  simp only [reduceCtorEq, not_false_eq_true, if_true, gX7_judge_17, t0, true_and]
  refine m_noBytes hm hSs hs ?_
  unfold judgeS at k
  simp only [Option.toList_some, List.cons_append, List.nil_append, gX7_judge_22]
  by_cases g3 : hk s = 0
  · simp only [g3, if_true, show ¬ (0 : Int32) = -1 by decide, if_false, show (0 : Int32) ≤ 0 by decide, gX7_judge_31, t0, true_and] at k ⊢
    refine m_unlike h hSs hs hp (fun I1 hf1 hM1 => ?_)
    simp only [Option.toList_some, List.cons_append, List.nil_append, gX7_judge_37]
    exact k I1 hf1 hM1
  · by_cases g4 : hk s = -1
    · simp only [g4, if_true, show ¬ (-1 : Int32) = 0 by decide, if_false, show ¬ (0 : Int32) ≤ -11 by decide, gX7_judge_27, gX7_judge_37] at k ⊢
      exact k I (frM_r I) h
    · simp only [g3, g4, if_false, show ¬ (0 : Int32) ≤ -12 by decide, gX7_judge_27, gX7_judge_37] at k ⊢
      exact k I (frM_r I) h
end J2
