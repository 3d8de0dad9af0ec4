/-! PURE: hears, odd -/
def dbS (el : Nat → Int64) (ln : Nat) : Int32 := anS el 1 1 (min (ln / 2) 20) 0 0 - anS el 1 0 (min (ln / 2) 20) 0 0
section H2
variable {X : tX} {T : tT} {I I' : tI} {J : tJ} {R : tR} {Q : tQ} {d a b c n s ln : Nat} {σ : rS} {el : Nat → Int64} {l : tL} {r q : Nat → Nat → Int32}
theorem c_doublings (hS : CSh T I J R s (nI 0) ln el) (k : Q (some (.int (dbS el ln))) (T, I, J, R)) : Ex X (d + 2) mX6_doublings 0 [.ref (42 + 2 * s)] [] (T, I, J, R) Q := by
  simp only [gX6_doublings_0]
  refine c_answersOf hS ?_
  simp only [Option.toList_some, List.cons_append, List.nil_append, gX6_doublings_6]
  refine c_answersOf hS ?_
  simp only [Option.toList_some, List.cons_append, List.nil_append, gX6_doublings_12]
  exact k
end H2
