/-! PURE: hears, odd -/
def dbS (el : Nat → Int64) (ln : Nat) : Int32 := anS el 1 1 (min (ln / 2) 20) 0 0 - anS el 1 0 (min (ln / 2) 20) 0 0
def upS (D : Int32) : Int64 := (1 : Int64) <<< ((if D < 0 then 0 else D).toInt64 &&& 63)
def hearP (hk : Nat → Int32) (s w : Int32) : Prop := inB s 0 5 = true ∧ hk s.toNatClampNeg = 0 ∧ inB w 0 1 = true
def hearsS (hk : Nat → Int32) (ln : Nat → Nat) (el : Nat → Nat → Int64) (s w : Int32) : Int64 := if inB s 0 5 = true ∧ hk s.toNatClampNeg = 0 ∧ inB w 0 1 = true then (if w = 0 then upS (dbS (el s.toNatClampNeg) (ln s.toNatClampNeg)) else upS (dbS (el s.toNatClampNeg) (ln s.toNatClampNeg)) + upS (-dbS (el s.toNatClampNeg) (ln s.toNatClampNeg))) else -9223372036854775808
def oddS (hk : Nat → Int32) (ln : Nat → Nat) (el : Nat → Nat → Int64) (s w : Int32) : Int32 := if inB s 0 5 = true ∧ hk s.toNatClampNeg = 0 ∧ inB w 0 1 = true then (if w = 0 then anS (el s.toNatClampNeg) 1 1 (min (ln s.toNatClampNeg / 2) 20) 0 0 - anS (el s.toNatClampNeg) 0 1 (min (ln s.toNatClampNeg / 2) 20) 0 0 else (if 0 < 4 - dbS (el s.toNatClampNeg) (ln s.toNatClampNeg) then 4 - dbS (el s.toNatClampNeg) (ln s.toNatClampNeg) else 0)) else -2000000000
section H2
variable {X : tX} {T : tT} {I I' : tI} {J : tJ} {R : tR} {Q : tQ} {d a b c n s ln : Nat} {σ : rS} {el : Nat → Int64} {l : tL} {r q : Nat → Nat → Int32}
theorem c_doublings (hS : CSh T I J R s (nI 0) ln el) (k : Q (some (.int (dbS el ln))) (T, I, J, R)) : Ex X (d + 2) mX6_doublings 0 [.ref (42 + 2 * s)] [] (T, I, J, R) Q := by
  simp only [gX6_doublings_0]
  refine c_answersOf hS ?_
  simp only [Option.toList_some, List.cons_append, List.nil_append, gX6_doublings_6]
  refine c_answersOf hS ?_
  simp only [Option.toList_some, List.cons_append, List.nil_append, gX6_doublings_12]
  exact k
variable {hk : Nat → Int32} {lnf : Nat → Nat} {elf : Nat → Nat → Int64}
theorem c_hears {s w : Int32} (h0 : T[0]? = some (3, 6)) (hh : HSh T R) (hS : ∀ s, s < 6 → CSh T I J R s (hk s) (lnf s) (elf s)) (k : Q (some (.long (hearsS hk lnf elf s w))) (T, I, J, R)) : Ex X (d + 3) mX6_hears 0 [.ref 0, .int s, .int w, rU, rU, rU, rU, rU] [] (T, I, J, R) Q := by
  obtain ⟨t41, r11, r41⟩ := hh
  have bad : ¬ (inB s 0 5 = true ∧ hk s.toNatClampNeg = 0 ∧ inB w 0 1 = true) → Ex X (d + 3) mX6_hears 28 [.ref 0, .int s, .int w, rU, rU, rU, rU, rU] [] (T, I, J, R) Q := by
    intro c
    simp only [gX6_hears_28]
    rw [hearsS, if_neg c] at k
    exact k
  simp only [gX6_hears_0]
  refine c_isShelf ?_
  simp only [Option.toList_some, List.cons_append, List.nil_append, gX6_hears_4, if10]
  cases g1 : inB s 0 5 with
  | false =>
    simp only [if_true]
    exact bad (by rw [g1]; simp)
  | true =>
  obtain ⟨s, hs, rfl⟩ := inB_5 g1
  have cs : (nI s).toNatClampNeg = s := nI_clamp (by omega)
  rw [cs] at bad
  have hSs := hS s hs
  simp only [reduceCtorEq, if_false, gX6_hears_7, h0, true_and, r11, rf_some, rIn_at t41 hs (by decide), cs, r41 s hs, hSs.1]
  refine c_isBytes hSs ?_
  simp only [Option.toList_some, List.cons_append, List.nil_append, gX6_hears_16]
  by_cases g2 : hk s = 0
  · simp only [g2, if_true, show ¬ (1 : Int32) = 0 by decide, if_false, gX6_hears_19, gX6_hears_23]
    by_cases c : inB w 0 1 = true
    · obtain ⟨w1, w2⟩ := of_decide_eq_true c
      simp only [w1, Int32.not_lt.mp w2, if_false, if_true]
      rw [g2] at hSs
      simp only [gX6_hears_32, h0, true_and, r11, rf_some, rIn_at t41 hs (by decide), cs, r41 s hs]
      refine c_doublings hSs ?_
      rw [hearsS, cs, if_pos ⟨g1, g2, c⟩] at k
      simp only [Option.toList_some, List.cons_append, List.nil_append, gX6_hears_41, ne_eq]
      unfold upS at k
      by_cases e : w = 0
      · simp only [e, not_true_eq_false, if_false, if_true, gX6_hears_65, gX6_hears_75] at k ⊢
        exact k
      · simp only [e, not_false_eq_true, if_false, if_true, gX6_hears_70, gX6_hears_75] at k ⊢
        exact k
    · have b := bad (fun z => c z.2.2)
      repeat' first | exact b | split
      exact absurd (decide_eq_true ⟨‹_›, Int32.not_lt.mpr ‹_›⟩) c
  · simp only [g2, if_false, if_true]
    exact bad (fun z => g2 z.2.1)
theorem c_odd {s w : Int32} (h0 : T[0]? = some (3, 6)) (hh : HSh T R) (hS : ∀ s, s < 6 → CSh T I J R s (hk s) (lnf s) (elf s)) (k : Q (some (.int (oddS hk lnf elf s w))) (T, I, J, R)) : Ex X (d + 3) mX6_odd 0 [.ref 0, .int s, .int w, rU] [] (T, I, J, R) Q := by
  obtain ⟨t41, r11, r41⟩ := hh
  have bad : ¬ (inB s 0 5 = true ∧ hk s.toNatClampNeg = 0 ∧ inB w 0 1 = true) → Ex X (d + 3) mX6_odd 28 [.ref 0, .int s, .int w, rU] [] (T, I, J, R) Q := by
    intro c
    simp only [gX6_odd_28]
    rw [oddS, if_neg c] at k
    exact k
  simp only [gX6_odd_0]
  refine c_isShelf ?_
  simp only [Option.toList_some, List.cons_append, List.nil_append, gX6_odd_4, if10]
  cases g1 : inB s 0 5 with
  | false =>
    simp only [if_true]
    exact bad (by rw [g1]; simp)
  | true =>
  obtain ⟨s, hs, rfl⟩ := inB_5 g1
  have cs : (nI s).toNatClampNeg = s := nI_clamp (by omega)
  rw [cs] at bad
  have hSs := hS s hs
  simp only [reduceCtorEq, if_false, gX6_odd_7, h0, true_and, r11, rf_some, rIn_at t41 hs (by decide), cs, r41 s hs, hSs.1]
  refine c_isBytes hSs ?_
  simp only [Option.toList_some, List.cons_append, List.nil_append, gX6_odd_16]
  by_cases g2 : hk s = 0
  · simp only [g2, if_true, show ¬ (1 : Int32) = 0 by decide, if_false, gX6_odd_19, gX6_odd_23]
    by_cases c : inB w 0 1 = true
    · obtain ⟨w1, w2⟩ := of_decide_eq_true c
      simp only [w1, Int32.not_lt.mp w2, if_false, if_true]
      rw [g2] at hSs
      simp only [gX6_odd_31, h0, true_and, r11, rf_some, rIn_at t41 hs (by decide), cs, r41 s hs, ne_eq]
      rw [oddS, cs, if_pos ⟨g1, g2, c⟩] at k
      by_cases e : w = 0
      · simp only [e, not_true_eq_false, if_false, if_true, gX6_odd_42] at k ⊢
        refine c_answersOf hSs ?_
        simp only [Option.toList_some, List.cons_append, List.nil_append, gX6_odd_48]
        refine c_answersOf hSs ?_
        simp only [Option.toList_some, List.cons_append, List.nil_append, gX6_odd_54]
        exact k
      · simp only [e, not_false_eq_true, if_false, if_true, gX6_odd_56] at k ⊢
        refine c_doublings hSs ?_
        simp only [Option.toList_some, List.cons_append, List.nil_append, gX6_odd_62]
        exact k
    · have b := bad (fun z => c z.2.2)
      repeat' first | exact b | split
      exact absurd (decide_eq_true ⟨‹_›, Int32.not_lt.mpr ‹_›⟩) c
  · simp only [g2, if_false, if_true]
    exact bad (fun z => g2 z.2.1)
end H2
