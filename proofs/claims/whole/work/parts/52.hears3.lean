/-! PURE: hears, odd, by the reference -/
section H3
variable {X : tX} {T : tT} {I I' : tI} {J : tJ} {R : tR} {Q : tQ} {d a b c n ln : Nat} {σ : rS} {el : Nat → Int64} {l : tL} {r q : Nat → Nat → Int32}
variable {hk : Nat → Int32} {lnf : Nat → Nat} {elf : Nat → Nat → Int64}
theorem m_hear0 {s : Int32} (hm : IsMod T R) (hS : ∀ s, s < 6 → MSh I J s (hk s) (lnf s) (elf s)) (hno : ¬ (inB s 0 5 = true ∧ hk s.toNatClampNeg = 0)) (k : Q (some (.int 0)) (T, I, J, R)) : Ex X (d + 2) mX7_hear 0 [.ref 54, .int s, rU, rU] [] (T, I, J, R) Q := by
  simp only [gX7_hear_0]
  refine m_isShelf ?_
  simp only [Option.toList_some, List.cons_append, List.nil_append, gX7_hear_4, if10]
  cases g1 : inB s 0 5 with
  | false =>
    simp only [if_true, gX7_hear_16, true_or, true_and]
    exact k
  | true =>
  obtain ⟨s, hs, rfl⟩ := inB_5 g1
  have cs : (nI s).toNatClampNeg = s := nI_clamp (by omega)
  rw [cs] at hno
  have g2 : ¬ hk s = 0 := fun z => hno ⟨g1, z⟩
  simp only [reduceCtorEq, if_false, gX7_hear_7, mt_54 hm, true_and, mr_34 hm, rf_some, rIn_at (mt_75 hm) hs (by decide), cs, (hS s hs).1, g2, gX7_hear_16, true_or]
  exact k
theorem up_pos {D : Int32} : (if D ≤ 0 then (1 : Int64) else 1 <<< (D.toInt64 &&& 63)) = upS D := by
  unfold upS
  by_cases g : D ≤ 0
  · rw [if_pos g]
    by_cases g2 : D < 0
    · rw [if_pos g2]
      decide +kernel
    · rw [if_neg g2, Int32.le_antisymm g (Int32.not_lt.mp g2)]
      decide +kernel
  · rw [if_neg g, if_neg (fun z => g (Int32.le_of_lt z))]
theorem up_neg {D : Int32} : (if 0 ≤ D then (1 : Int64) else 1 <<< ((-D).toInt64 &&& 63)) = upS (-D) := by
  rw [← up_pos]
  have b1 := D.le_toInt
  have b2 := D.toInt_lt
  have e0 : (0 : Int32).toInt = 0 := by decide
  by_cases g : 0 ≤ D
  · rw [if_pos g]
    rw [Int32.le_iff_toInt_le, e0] at g
    have : -D ≤ 0 := by
      rw [Int32.le_iff_toInt_le, e0, Int32.toInt_neg, Int.bmod_def]
      omega
    rw [if_pos this]
  · rw [if_neg g]
    by_cases e : D = -2147483648
    · rw [e]
      decide +kernel
    · have e1 : ¬ D.toInt = -2147483648 := fun z => e (Int32.toInt_inj.mp (by rw [z]; decide +kernel))
      rw [Int32.le_iff_toInt_le, e0] at g
      have : ¬ -D ≤ 0 := by
        rw [Int32.le_iff_toInt_le, e0, Int32.toInt_neg, Int.bmod_def]
        omega
      rw [if_neg this]
theorem m_hears {s w : Int32} (h : MS T I R n l r) (hS : ∀ s, s < 6 → MSh I J s (hk s) (lnf s) (elf s)) (k : ∀ I' : tI, frM I I' → MS T I' R n l r → Q (some (.long (hearsS hk lnf elf s w))) (T, I', J, R)) : Ex X (d + 3) mX7_hears 0 [.ref 54, .int s, .int w, rU, rU, rU, rU, rU] [] (T, I, J, R) Q := by
  have hm := h.1
  have t0 := mt_54 hm
  have t82 := mt_82 hm
  have q0 : rIn T 82 0 0 := rIn_at (k := 0) t82 (by decide) (by decide)
  have q1 : rIn T 82 0 1 := rIn_at (k := 1) t82 (by decide) (by decide)
  have c1 : (1 : Int32).toNatClampNeg = 1 := by decide
  have bad : ¬ (inB s 0 5 = true ∧ hk s.toNatClampNeg = 0 ∧ inB w 0 1 = true) → Ex X (d + 3) mX7_hears 17 [.ref 54, .int s, .int w, rU, rU, rU, rU, rU] [] (T, I, J, R) Q := by
    intro c
    simp only [gX7_hears_17]
    have := k I (frM_r I) h
    rw [hearsS, if_neg c] at this
    exact this
  simp only [gX7_hears_0]
  refine s_within ?_
  simp only [Option.toList_some, List.cons_append, List.nil_append, gX7_hears_6, if10]
  cases g1 : inB w 0 1 with
  | false =>
    simp only [if_true]
    exact bad (by rw [g1]; simp)
  | true =>
  simp only [reduceCtorEq, if_false, gX7_hears_9, t0, true_and]
  by_cases c : inB s 0 5 = true ∧ hk s.toNatClampNeg = 0
  · obtain ⟨s, hs, rfl⟩ := inB_5 c.1
    have cs : (nI s).toNatClampNeg = s := nI_clamp (by omega)
    have c2 := c.2
    rw [hearsS, if_pos ⟨c.1, c.2, g1⟩, cs] at k
    rw [cs] at c2
    refine m_hear hm (hS s hs) hs c2 (fun I1 hf1 a0 a1 a2 => ?_)
    have kk := k I1 (fun x hx => hf1 x (by omega)) (MS_fr h (fun x hx => hf1 x (by omega)))
    simp only [Option.toList_some, List.cons_append, List.nil_append, gX7_hears_14, ne_eq, show ¬ (1 : Int32) = 0 by decide, not_false_eq_true, if_true]
    simp only [gX7_hears_21, t0, true_and, mr_41 hm, rf_some, q0, q1, clamp_0, c1, a0, a1]
    have eD : anS (elf s) 1 1 (min (lnf s / 2) 20) 0 0 - anS (elf s) 1 0 (min (lnf s / 2) 20) 0 0 = dbS (elf s) (lnf s) := rfl
    rw [eD]
    generalize dbS (elf s) (lnf s) = D at kk ⊢
    have two : ∀ A : Int64, A = upS D → Ex X (d + 3) mX7_hears 46 [.ref 54, .int (nI s), .int w, .int D, rU, rU, rU, rU] [.long A] (T, I1, J, R) Q := by
      intro A eA
      have three : ∀ B : Int64, B = upS (-D) → Ex X (d + 3) mX7_hears 60 [.ref 54, .int (nI s), .int w, .int D, .long A, rU, rU, rU] [.long B] (T, I1, J, R) Q := by
        intro B eB
        rw [← eA, ← eB] at kk
        simp only [gX7_hears_60, ne_eq]
        by_cases e : w = 0
        · simp only [e, not_true_eq_false, if_false, if_true, gX7_hears_66, gX7_hears_76] at kk ⊢
          exact kk
        · simp only [e, not_false_eq_true, if_false, if_true, gX7_hears_71, gX7_hears_76] at kk ⊢
          exact kk
      simp only [gX7_hears_46]
      by_cases g : 0 ≤ D
      · simp only [g, if_true, gX7_hears_59]
        exact three 1 (by rw [← up_neg, if_pos g])
      · simp only [g, if_false, gX7_hears_52]
        exact three _ (by rw [← up_neg, if_neg g])
    by_cases g : D ≤ 0
    · simp only [g, if_true, gX7_hears_45]
      exact two 1 (by rw [← up_pos, if_pos g])
    · simp only [g, if_false, gX7_hears_39]
      exact two _ (by rw [← up_pos, if_neg g])
  · refine m_hear0 hm hS c ?_
    simp only [Option.toList_some, List.cons_append, List.nil_append, gX7_hears_14, ne_eq, not_true_eq_false, if_false]
    exact bad (fun z => c ⟨z.1, z.2.1⟩)
end H3
