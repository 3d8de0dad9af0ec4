/-! PURE: odd, by the reference -/
theorem z_4sub (a b : Int32) : 4 - a + b = 4 - (a - b) := by
  rw [Int32.sub_eq_add_neg 4 (a - b), Int32.neg_sub, Int32.sub_eq_add_neg 4 a, Int32.sub_eq_add_neg b a, Int32.add_comm b (-a), Int32.add_assoc]
section O3
variable {X : tX} {T : tT} {I I' : tI} {J : tJ} {R : tR} {Q : tQ} {d a b c n ln : Nat} {σ : rS} {el : Nat → Int64} {l : tL} {r q : Nat → Nat → Int32}
variable {hk : Nat → Int32} {lnf : Nat → Nat} {elf : Nat → Nat → Int64}
theorem m_odd {s w : Int32} (h : MS T I R n l r) (hS : ∀ s, s < 6 → MSh I J s (hk s) (lnf s) (elf s)) (k : ∀ I' : tI, frM I I' → MS T I' R n l r → Q (some (.int (oddS hk lnf elf s w))) (T, I', J, R)) : Ex X (d + 3) mX7_odd 0 [.ref 54, .int s, .int w] [] (T, I, J, R) Q := by
  have hm := h.1
  have t0 := mt_54 hm
  have t82 := mt_82 hm
  have q0 : rIn T 82 0 0 := rIn_at (k := 0) t82 (by decide) (by decide)
  have q1 : rIn T 82 0 1 := rIn_at (k := 1) t82 (by decide) (by decide)
  have q2 : rIn T 82 0 2 := rIn_at (k := 2) t82 (by decide) (by decide)
  have c1 : (1 : Int32).toNatClampNeg = 1 := by decide
  have c2 : (2 : Int32).toNatClampNeg = 2 := by decide
  have bad : ¬ (inB s 0 5 = true ∧ hk s.toNatClampNeg = 0 ∧ inB w 0 1 = true) → Ex X (d + 3) mX7_odd 17 [.ref 54, .int s, .int w] [] (T, I, J, R) Q := by
    intro c
    simp only [gX7_odd_17]
    have := k I (frM_r I) h
    rw [oddS, if_neg c] at this
    exact this
  simp only [gX7_odd_0]
  refine s_within ?_
  simp only [Option.toList_some, List.cons_append, List.nil_append, gX7_odd_6, if10]
  cases g1 : inB w 0 1 with
  | false =>
    simp only [if_true]
    exact bad (by rw [g1]; simp)
  | true =>
  simp only [reduceCtorEq, if_false, gX7_odd_9, t0, true_and]
  by_cases c : inB s 0 5 = true ∧ hk s.toNatClampNeg = 0
  · obtain ⟨s, hs, rfl⟩ := inB_5 c.1
    have cs : (nI s).toNatClampNeg = s := nI_clamp (by omega)
    have c2' := c.2
    rw [oddS, if_pos ⟨c.1, c.2, g1⟩, cs] at k
    rw [cs] at c2'
    refine m_hear hm (hS s hs) hs c2' (fun I1 hf1 a0 a1 a2 => ?_)
    have kk := k I1 (fun x hx => hf1 x (by omega)) (MS_fr h (fun x hx => hf1 x (by omega)))
    simp only [Option.toList_some, List.cons_append, List.nil_append, gX7_odd_14, ne_eq, show ¬ (1 : Int32) = 0 by decide, not_false_eq_true, if_true, gX7_odd_21]
    by_cases e : w = 0
    · simp only [e, not_true_eq_false, if_false, if_true, gX7_odd_25, gX7_odd_60, t0, true_and, mr_41 hm, rf_some, q0, q2, clamp_0, c2, a0, a2] at kk ⊢
      exact kk
    · simp only [e, not_false_eq_true, if_false, if_true, gX7_odd_41, gX7_odd_60, t0, true_and, mr_41 hm, rf_some, q0, q1, clamp_0, c1, a0, a1] at kk ⊢
      rw [z_4sub]
      exact kk
  · refine m_hear0 hm hS c ?_
    simp only [Option.toList_some, List.cons_append, List.nil_append, gX7_odd_14, ne_eq, not_true_eq_false, if_false]
    exact bad (fun z => c ⟨z.1, z.2.1⟩)
end O3
