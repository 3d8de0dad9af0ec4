/-! PURE: hears, odd, by the reference -/
section H3
variable {X : tX} {T : tT} {I I' : tI} {J : tJ} {R : tR} {Q : tQ} {d a b c n ln : Nat} {σ : rS} {el : Nat → Int64} {l : tL} {r q : Nat → Nat → Int32}
variable {hk : Nat → Int32} {lnf : Nat → Nat} {elf : Nat → Nat → Int64}
theorem m_hear0 {s : Int32} (hm : IsMod T R) (hS : ∀ s, s < 6 → MSh I J s (hk s) (lnf s) (elf s)) (hno : ¬ (inB s 0 5 = true ∧ hk s.toNatClampNeg = 0)) (k : Q (some (.int 0)) (T, I, J, R)) : Ex X (d + 2) mX7_hear 0 [.ref 54, .int s, rU, rU] [] (T, I, J, R) Q := by
  simp only [gX7_hear_0]
  refine m_isShelf ?_
  simp only [Option.toList_some, List.cons_append, List.nil_append, gX7_hear_4, if10]
  cases g1 : inB s 0 5 with
  | false =>
    simp only [if_true, gX7_hear_16, true_or, true_and]
    exact k
  | true =>
  obtain ⟨s, hs, rfl⟩ := inB_5 g1
  have cs : (nI s).toNatClampNeg = s := nI_clamp (by omega)
  rw [cs] at hno
  have g2 : ¬ hk s = 0 := fun z => hno ⟨g1, z⟩
  simp only [reduceCtorEq, if_false, gX7_hear_7, mt_54 hm, true_and, mr_34 hm, rf_some, rIn_at (mt_75 hm) hs (by decide), cs, (hS s hs).1, g2, gX7_hear_16, true_or]
  exact k
theorem up_pos {D : Int32} : (if D ≤ 0 then (1 : Int64) else 1 <<< (D.toInt64 &&& 63)) = upS D := by
  unfold upS
  by_cases g : D ≤ 0
  · rw [if_pos g]
    by_cases g2 : D < 0
    · rw [if_pos g2]
      decide +kernel
    · rw [if_neg g2, Int32.le_antisymm g (Int32.not_lt.mp g2)]
      decide +kernel
  · rw [if_neg g, if_neg (fun z => g (Int32.le_of_lt z))]
theorem up_neg {D : Int32} : (if 0 ≤ D then (1 : Int64) else 1 <<< ((-D).toInt64 &&& 63)) = upS (-D) := by
  rw [← up_pos]
  have b1 := D.le_toInt
  have b2 := D.toInt_lt
  have e0 : (0 : Int32).toInt = 0 := by decide
  by_cases g : 0 ≤ D
  · rw [if_pos g]
    rw [Int32.le_iff_toInt_le, e0] at g
    have : -D ≤ 0 := by
      rw [Int32.le_iff_toInt_le, e0, Int32.toInt_neg, Int.bmod_def]
      omega
    rw [if_pos this]
  · rw [if_neg g]
    by_cases e : D = -2147483648
    · rw [e]
      decide +kernel
    · have e1 : ¬ D.toInt = -2147483648 := fun z => e (Int32.toInt_inj.mp (by rw [z]; decide +kernel))
      rw [Int32.le_iff_toInt_le, e0] at g
      have : ¬ -D ≤ 0 := by
        rw [Int32.le_iff_toInt_le, e0, Int32.toInt_neg, Int.bmod_def]
        omega
      rw [if_neg this]
end H3
