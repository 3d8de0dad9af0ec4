/-! PURE: the reference is made -/
def kH (I : tI) (a i : Nat) (v : Int32) : tI := va_up I a (va_up (I a) i v)
section KR
variable {X : tX} {T : tT} {I : tI} {J : tJ} {R : tR} {Q : tQ} {d a n : Nat}
set_option maxRecDepth 50000 in
theorem k_hd {i : Nat} (hi : i < 6) (h0 : T[54]? = some (3, 7)) (h75 : T[75]? = some (0, 6)) (hR : R 54 34 = some 75) (k : Ex X d mX7_init 238 [.ref 54, .int (nI (i + 1))] [] (T, kH I 75 i (-1), J, R) Q) : Ex X d mX7_init 238 [.ref 54, .int (nI i)] [] (T, I, J, R) Q := by
  have hlt : ¬ (6 : Int32) ≤ nI i := nI_ge (b := 6) hi (by decide)
  simp only [gX7_init_238, hlt, if_false]
  simp only [gX7_init_244, h0, hR, rf_some, true_and, rIn_at h75 hi (by decide), nI_clamp (show i < 2 ^ 31 by omega), nI_1]
  exact k
def kT7 : tT := [(0, 32), (0, 7), (0, 2), (0, 120), (0, 60), (0, 60), (0, 60), (0, 200), (0, 61), (0, 61), (0, 61), (0, 200), (0, 200), (0, 6), (0, 5), (0, 25), (0, 5), (0, 160), (0, 50), (0, 24), (0, 6), (0, 6), (1, 360), (0, 8), (0, 25), (0, 25), (0, 64), (0, 3)]
def kI7 (I : tI) : tI := (kH (kH (kH (kH (kH (kH (kH (kZ (kZ (kZ (kZ (kZ (kZ (kZ (kZ (kZ (kZ (kZ (kZ (kZ (kZ (kZ (kZ (kZ (kZ (kZ (kZ (kZ (kZ (kZ (kZ (kZ (kZ (kZ I 55) 56) 57) 58) 59) 60) 61) 62) 63) 64) 65) 66) 67) 68) 69) 70) 71) 72) 73) 74) 75) 76) 78) 79) 80) 81) 82) 57 0 3) 75 0 (-1)) 75 1 (-1)) 75 2 (-1)) 75 3 (-1)) 75 4 (-1)) 75 5 (-1))
def kJ7 (J : tJ) : tJ := (kZL J 77)
def kR7 (R : tR) : tR := (kP (kP (kP (kP (kP (kP (kP (kP (kP (kP (kP (kP (kP (kP (kP (kP (kP (kP (kP (kP (kP (kP (kP (kP (kP (kP (kP (kP R 54 1 55) 54 2 56) 54 3 57) 54 5 58) 54 8 59) 54 9 60) 54 10 61) 54 11 62) 54 16 63) 54 17 64) 54 18 65) 54 19 66) 54 20 67) 54 21 68) 54 22 69) 54 25 70) 54 26 71) 54 29 72) 54 31 73) 54 33 74) 54 34 75) 54 35 76) 54 36 77) 54 37 78) 54 38 79) 54 39 80) 54 40 81) 54 41 82)
set_option maxRecDepth 50000 in
theorem k_X7 (h0 : T[54]? = some (3, 7)) (hl : T.length = 55) (k : Q none (T ++ kT7, kI7 I, kJ7 J, kR7 R)) : Ex X (d + 1) mX7_init 0 [.ref 54, rU] [] (T, I, J, R) Q := by
  have hg : ∀ l : tT, (T ++ l)[54]? = some (3, 7) := fun l => k_get h0
  simp only [gX7_init_0, nX7_init_7, nX7_init_15, nX7_init_22, nX7_init_30, nX7_init_38, nX7_init_46, nX7_init_54, nX7_init_63, nX7_init_71, nX7_init_79, nX7_init_87, nX7_init_96, nX7_init_105, nX7_init_113, nX7_init_120, nX7_init_128, nX7_init_135, nX7_init_144, nX7_init_152, nX7_init_160, nX7_init_168, nX7_init_176, nX7_init_185, nX7_init_193, nX7_init_201, nX7_init_209, nX7_init_217, nX7_init_224, h0, hg, List.append_assoc, List.cons_append, List.nil_append, List.length_append, List.length_cons, List.length_nil, hl, true_and, Nat.reduceAdd]
  show Ex X (d + 1) mX7_init 233 [.ref 54, rU] [.ref 57] (_, _, _, _) Q
  simp only [gX7_init_0]
  refine ⟨by rw [← nI_0]; exact rIn_at (k_at 2 hl rfl) (show 0 < 2 by decide) (by decide), ?_⟩
  show Ex X (d + 1) mX7_init 238 [.ref 54, .int (nI 0)] [] (T ++ kT7, (kH (kZ (kZ (kZ (kZ (kZ (kZ (kZ (kZ (kZ (kZ (kZ (kZ (kZ (kZ (kZ (kZ (kZ (kZ (kZ (kZ (kZ (kZ (kZ (kZ (kZ (kZ (kZ I 55) 56) 57) 58) 59) 60) 61) 62) 63) 64) 65) 66) 67) 68) 69) 70) 71) 72) 73) 74) 75) 76) 78) 79) 80) 81) 82) 57 0 3), (kZL J 77), kR7 R) Q
  refine k_hd (i := 0) (by decide) (hg _) (k_at 20 hl rfl) rfl ?_
  refine k_hd (i := 1) (by decide) (hg _) (k_at 20 hl rfl) rfl ?_
  refine k_hd (i := 2) (by decide) (hg _) (k_at 20 hl rfl) rfl ?_
  refine k_hd (i := 3) (by decide) (hg _) (k_at 20 hl rfl) rfl ?_
  refine k_hd (i := 4) (by decide) (hg _) (k_at 20 hl rfl) rfl ?_
  refine k_hd (i := 5) (by decide) (hg _) (k_at 20 hl rfl) rfl ?_
  simp only [gX7_init_238, show (6 : Int32) ≤ nI (5 + 1) by decide, if_true, gX7_init_257]
  exact k
end KR
