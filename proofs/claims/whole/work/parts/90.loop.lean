/-! PURE: the law's loop -/
/-- five places behind a place of the script lie in it -/
def ixL (L : Nat) (xs : Nat → Int32) (x : Int32) : Prop := ¬ (x + 1 < 0 ∨ (rX L xs 4).1 ≤ (x + 1).toNatClampNeg) ∧ ¬ (x + 2 < 0 ∨ (rX L xs 4).1 ≤ (x + 2).toNatClampNeg) ∧ ¬ (x + 3 < 0 ∨ (rX L xs 4).1 ≤ (x + 3).toNatClampNeg) ∧ ¬ (x + 4 < 0 ∨ (rX L xs 4).1 ≤ (x + 4).toNatClampNeg) ∧ ¬ (x + 5 < 0 ∨ (rX L xs 4).1 ≤ (x + 5).toNatClampNeg)
section LP
variable {X : tX} {T : tT} {I : tI} {J : tJ} {R : tR} {Q : tQ} {d d1 d2 L : Nat} {xs : Nat → Int32} {x : Int32} {MC MM : rM} {LC LM : List Value}
theorem jn_use (hJ : Jn X d1 d2 MC LC MM LM) (hR : Rel T I J R) (k : ∀ (z : Int32) (I1 : tI) (J1 : tJ) (R1 : tR), Ex X d2 MM 0 LM [] (T, I1, J1, R1) (fun v2 σ2 => v2 = some (.int z) ∧ Rl σ2) → Q (some (.int z)) (T, I1, J1, R1)) : Ex X d1 MC 0 LC [] (T, I, J, R) Q := by
  obtain ⟨z, hz⟩ := hJ T I J R hR
  refine ex_mono (fun v1 σ1 h => ?_) hz
  obtain ⟨rfl, hT, hx⟩ := h
  obtain ⟨T1, I1, J1, R1⟩ := σ1
  obtain rfl : T1 = T := hT
  exact k z I1 J1 R1 hx
theorem jl_use (hJ : JnL X d1 d2 MC LC MM LM) (hR : Rel T I J R) (k : ∀ (z : Int64) (I1 : tI) (J1 : tJ) (R1 : tR), Ex X d2 MM 0 LM [] (T, I1, J1, R1) (fun v2 σ2 => v2 = some (.long z) ∧ Rl σ2) → Q (some (.long z)) (T, I1, J1, R1)) : Ex X d1 MC 0 LC [] (T, I, J, R) Q := by
  obtain ⟨z, hz⟩ := hJ T I J R hR
  refine ex_mono (fun v1 σ1 h => ?_) hz
  obtain ⟨rfl, hT, hx⟩ := h
  obtain ⟨T1, I1, J1, R1⟩ := σ1
  obtain rfl : T1 = T := hT
  exact k z I1 J1 R1 hx
theorem Rel_0 (h : Rel T I J R) : T[0]? = some (3, 6) := by
  obtain ⟨ht1, ht2, b, b2, n, l, r, sh, ld, im, tp, ch, st, hb, hH, hC, hM, hA, hP⟩ := h
  exact hH.1
theorem Rel_54 (h : Rel T I J R) : T[54]? = some (3, 7) := by
  obtain ⟨ht1, ht2, b, b2, n, l, r, sh, ld, im, tp, ch, st, hb, hH, hC, hM, hA, hP⟩ := h
  exact mt_54 hM.1
set_option maxRecDepth 50000 in
theorem lc_reach (hx : ixL L xs x) (hR : Rel T I J R) (k : ∀ σ, Rl σ → Ex (rX L xs) (d + 51) mL_law 1443 [.retAddr 4, .ref 0, .ref 54, .int x] [] σ Q) : Ex (rX L xs) (d + 51) mL_law 204 [.retAddr 4, .ref 0, .ref 54, .int x] [] (T, I, J, R) Q := by
  obtain ⟨h1, h2, h3, h4, h5⟩ := hx
  simp only [gL_law_204, h1, not_false_eq_true, true_and]
  refine ⟨Rel_0 hR, jn_use (j_reach (d := d)) hR (fun z I1 J1 R1 hx => ?_)⟩
  simp only [Option.toList_some, List.cons_append, List.nil_append, gL_law_213, h1, not_false_eq_true, true_and]
  refine ⟨Rel_54 hR, ex_mono (fun v2 σ2 g => ?_) hx⟩
  obtain ⟨rfl, g3⟩ := g
  simp only [Option.toList_some, List.cons_append, List.nil_append, gL_law_222, if_true]
  exact k σ2 g3
set_option maxRecDepth 50000 in
theorem lc_reaches (hx : ixL L xs x) (hR : Rel T I J R) (k : ∀ σ, Rl σ → Ex (rX L xs) (d + 51) mL_law 1443 [.retAddr 4, .ref 0, .ref 54, .int x] [] σ Q) : Ex (rX L xs) (d + 51) mL_law 227 [.retAddr 4, .ref 0, .ref 54, .int x] [] (T, I, J, R) Q := by
  obtain ⟨h1, h2, h3, h4, h5⟩ := hx
  simp only [gL_law_227, h1, h2, h3, not_false_eq_true, true_and]
  refine ⟨Rel_0 hR, jn_use (j_reaches (d := d)) hR (fun z I1 J1 R1 hx => ?_)⟩
  simp only [Option.toList_some, List.cons_append, List.nil_append, gL_law_246, h1, h2, h3, not_false_eq_true, true_and]
  refine ⟨Rel_54 hR, ex_mono (fun v2 σ2 g => ?_) hx⟩
  obtain ⟨rfl, g3⟩ := g
  simp only [Option.toList_some, List.cons_append, List.nil_append, gL_law_265, if_true]
  exact k σ2 g3
set_option maxRecDepth 50000 in
theorem lc_mend (hx : ixL L xs x) (hR : Rel T I J R) (k : ∀ σ, Rl σ → Ex (rX L xs) (d + 51) mL_law 1443 [.retAddr 4, .ref 0, .ref 54, .int x] [] σ Q) : Ex (rX L xs) (d + 51) mL_law 270 [.retAddr 4, .ref 0, .ref 54, .int x] [] (T, I, J, R) Q := by
  obtain ⟨h1, h2, h3, h4, h5⟩ := hx
  simp only [gL_law_270, h1, h2, h3, not_false_eq_true, true_and]
  refine ⟨Rel_0 hR, jn_use (j_mend (d := d)) hR (fun z I1 J1 R1 hx => ?_)⟩
  simp only [Option.toList_some, List.cons_append, List.nil_append, gL_law_289, h1, h2, h3, not_false_eq_true, true_and]
  refine ⟨Rel_54 hR, ex_mono (fun v2 σ2 g => ?_) hx⟩
  obtain ⟨rfl, g3⟩ := g
  simp only [Option.toList_some, List.cons_append, List.nil_append, gL_law_308, if_true]
  exact k σ2 g3
set_option maxRecDepth 50000 in
theorem lc_of (hx : ixL L xs x) (hR : Rel T I J R) (k : ∀ σ, Rl σ → Ex (rX L xs) (d + 51) mL_law 1443 [.retAddr 4, .ref 0, .ref 54, .int x] [] σ Q) : Ex (rX L xs) (d + 51) mL_law 313 [.retAddr 4, .ref 0, .ref 54, .int x] [] (T, I, J, R) Q := by
  obtain ⟨h1, h2, h3, h4, h5⟩ := hx
  simp only [gL_law_313, h1, h2, not_false_eq_true, true_and]
  refine ⟨Rel_0 hR, jn_use (j_of (d := d)) hR (fun z I1 J1 R1 hx => ?_)⟩
  simp only [Option.toList_some, List.cons_append, List.nil_append, gL_law_327, h1, h2, not_false_eq_true, true_and]
  refine ⟨Rel_54 hR, ex_mono (fun v2 σ2 g => ?_) hx⟩
  obtain ⟨rfl, g3⟩ := g
  simp only [Option.toList_some, List.cons_append, List.nil_append, gL_law_341, if_true]
  exact k σ2 g3
set_option maxRecDepth 50000 in
theorem lc_feed (hx : ixL L xs x) (hR : Rel T I J R) (k : ∀ σ, Rl σ → Ex (rX L xs) (d + 51) mL_law 1443 [.retAddr 4, .ref 0, .ref 54, .int x] [] σ Q) : Ex (rX L xs) (d + 51) mL_law 346 [.retAddr 4, .ref 0, .ref 54, .int x] [] (T, I, J, R) Q := by
  obtain ⟨h1, h2, h3, h4, h5⟩ := hx
  simp only [gL_law_346, h1, not_false_eq_true, true_and]
  refine ⟨Rel_0 hR, jn_use (j_feed (d := d)) hR (fun z I1 J1 R1 hx => ?_)⟩
  simp only [Option.toList_some, List.cons_append, List.nil_append, gL_law_355, h1, not_false_eq_true, true_and]
  refine ⟨Rel_54 hR, ex_mono (fun v2 σ2 g => ?_) hx⟩
  obtain ⟨rfl, g3⟩ := g
  simp only [Option.toList_some, List.cons_append, List.nil_append, gL_law_364, if_true]
  exact k σ2 g3
set_option maxRecDepth 50000 in
theorem lc_law (hx : ixL L xs x) (hR : Rel T I J R) (k : ∀ σ, Rl σ → Ex (rX L xs) (d + 51) mL_law 1443 [.retAddr 4, .ref 0, .ref 54, .int x] [] σ Q) : Ex (rX L xs) (d + 51) mL_law 369 [.retAddr 4, .ref 0, .ref 54, .int x] [] (T, I, J, R) Q := by
  obtain ⟨h1, h2, h3, h4, h5⟩ := hx
  simp only [gL_law_369]
  refine ⟨Rel_0 hR, jn_use (j_law (d := d)) hR (fun z I1 J1 R1 hx => ?_)⟩
  simp only [Option.toList_some, List.cons_append, List.nil_append, gL_law_373]
  refine ⟨Rel_54 hR, ex_mono (fun v2 σ2 g => ?_) hx⟩
  obtain ⟨rfl, g3⟩ := g
  simp only [Option.toList_some, List.cons_append, List.nil_append, gL_law_377, if_true]
  exact k σ2 g3
set_option maxRecDepth 50000 in
theorem lc_goes (hx : ixL L xs x) (hR : Rel T I J R) (k : ∀ σ, Rl σ → Ex (rX L xs) (d + 51) mL_law 1443 [.retAddr 4, .ref 0, .ref 54, .int x] [] σ Q) : Ex (rX L xs) (d + 51) mL_law 382 [.retAddr 4, .ref 0, .ref 54, .int x] [] (T, I, J, R) Q := by
  obtain ⟨h1, h2, h3, h4, h5⟩ := hx
  simp only [gL_law_382, h1, not_false_eq_true, true_and]
  refine ⟨Rel_0 hR, jn_use (j_goes (d := d)) hR (fun z I1 J1 R1 hx => ?_)⟩
  simp only [Option.toList_some, List.cons_append, List.nil_append, gL_law_391, h1, not_false_eq_true, true_and]
  refine ⟨Rel_54 hR, ex_mono (fun v2 σ2 g => ?_) hx⟩
  obtain ⟨rfl, g3⟩ := g
  simp only [Option.toList_some, List.cons_append, List.nil_append, gL_law_400, if_true]
  exact k σ2 g3
set_option maxRecDepth 50000 in
theorem lc_later (hx : ixL L xs x) (hR : Rel T I J R) (k : ∀ σ, Rl σ → Ex (rX L xs) (d + 51) mL_law 1443 [.retAddr 4, .ref 0, .ref 54, .int x] [] σ Q) : Ex (rX L xs) (d + 51) mL_law 405 [.retAddr 4, .ref 0, .ref 54, .int x] [] (T, I, J, R) Q := by
  obtain ⟨h1, h2, h3, h4, h5⟩ := hx
  simp only [gL_law_405, h1, h2, h3, not_false_eq_true, true_and]
  refine ⟨Rel_0 hR, jn_use (j_later (d := d)) hR (fun z I1 J1 R1 hx => ?_)⟩
  simp only [Option.toList_some, List.cons_append, List.nil_append, gL_law_424, h1, h2, h3, not_false_eq_true, true_and]
  refine ⟨Rel_54 hR, ex_mono (fun v2 σ2 g => ?_) hx⟩
  obtain ⟨rfl, g3⟩ := g
  simp only [Option.toList_some, List.cons_append, List.nil_append, gL_law_443, if_true]
  exact k σ2 g3
set_option maxRecDepth 50000 in
theorem lc_river (hx : ixL L xs x) (hR : Rel T I J R) (k : ∀ σ, Rl σ → Ex (rX L xs) (d + 51) mL_law 1443 [.retAddr 4, .ref 0, .ref 54, .int x] [] σ Q) : Ex (rX L xs) (d + 51) mL_law 448 [.retAddr 4, .ref 0, .ref 54, .int x] [] (T, I, J, R) Q := by
  obtain ⟨h1, h2, h3, h4, h5⟩ := hx
  simp only [gL_law_448, h1, h2, not_false_eq_true, true_and]
  refine ⟨Rel_0 hR, jn_use (j_river (d := d)) hR (fun z I1 J1 R1 hx => ?_)⟩
  simp only [Option.toList_some, List.cons_append, List.nil_append, gL_law_462, h1, h2, not_false_eq_true, true_and]
  refine ⟨Rel_54 hR, ex_mono (fun v2 σ2 g => ?_) hx⟩
  obtain ⟨rfl, g3⟩ := g
  simp only [Option.toList_some, List.cons_append, List.nil_append, gL_law_476, if_true]
  exact k σ2 g3
set_option maxRecDepth 50000 in
theorem lc_over (hx : ixL L xs x) (hR : Rel T I J R) (k : ∀ σ, Rl σ → Ex (rX L xs) (d + 51) mL_law 1443 [.retAddr 4, .ref 0, .ref 54, .int x] [] σ Q) : Ex (rX L xs) (d + 51) mL_law 481 [.retAddr 4, .ref 0, .ref 54, .int x] [] (T, I, J, R) Q := by
  obtain ⟨h1, h2, h3, h4, h5⟩ := hx
  simp only [gL_law_481, h1, not_false_eq_true, true_and]
  refine ⟨Rel_0 hR, jn_use (j_over (d := d)) hR (fun z I1 J1 R1 hx => ?_)⟩
  simp only [Option.toList_some, List.cons_append, List.nil_append, gL_law_490, h1, not_false_eq_true, true_and]
  refine ⟨Rel_54 hR, ex_mono (fun v2 σ2 g => ?_) hx⟩
  obtain ⟨rfl, g3⟩ := g
  simp only [Option.toList_some, List.cons_append, List.nil_append, gL_law_499, if_true]
  exact k σ2 g3
set_option maxRecDepth 50000 in
theorem lc_signs (hx : ixL L xs x) (hR : Rel T I J R) (k : ∀ σ, Rl σ → Ex (rX L xs) (d + 51) mL_law 1443 [.retAddr 4, .ref 0, .ref 54, .int x] [] σ Q) : Ex (rX L xs) (d + 51) mL_law 504 [.retAddr 4, .ref 0, .ref 54, .int x] [] (T, I, J, R) Q := by
  obtain ⟨h1, h2, h3, h4, h5⟩ := hx
  simp only [gL_law_504, h1, h2, h3, not_false_eq_true, true_and]
  refine ⟨Rel_0 hR, jn_use (j_signs (d := d)) hR (fun z I1 J1 R1 hx => ?_)⟩
  simp only [Option.toList_some, List.cons_append, List.nil_append, gL_law_523, h1, h2, h3, not_false_eq_true, true_and]
  refine ⟨Rel_54 hR, ex_mono (fun v2 σ2 g => ?_) hx⟩
  obtain ⟨rfl, g3⟩ := g
  simp only [Option.toList_some, List.cons_append, List.nil_append, gL_law_542, if_true]
  exact k σ2 g3
set_option maxRecDepth 50000 in
theorem lc_still (hx : ixL L xs x) (hR : Rel T I J R) (k : ∀ σ, Rl σ → Ex (rX L xs) (d + 51) mL_law 1443 [.retAddr 4, .ref 0, .ref 54, .int x] [] σ Q) : Ex (rX L xs) (d + 51) mL_law 547 [.retAddr 4, .ref 0, .ref 54, .int x] [] (T, I, J, R) Q := by
  obtain ⟨h1, h2, h3, h4, h5⟩ := hx
  simp only [gL_law_547]
  refine ⟨Rel_0 hR, jn_use (j_still (d := d)) hR (fun z I1 J1 R1 hx => ?_)⟩
  simp only [Option.toList_some, List.cons_append, List.nil_append, gL_law_551]
  refine ⟨Rel_54 hR, ex_mono (fun v2 σ2 g => ?_) hx⟩
  obtain ⟨rfl, g3⟩ := g
  simp only [Option.toList_some, List.cons_append, List.nil_append, gL_law_555, if_true]
  exact k σ2 g3
set_option maxRecDepth 50000 in
theorem lc_throwIn (hx : ixL L xs x) (hR : Rel T I J R) (k : ∀ σ, Rl σ → Ex (rX L xs) (d + 51) mL_law 1443 [.retAddr 4, .ref 0, .ref 54, .int x] [] σ Q) : Ex (rX L xs) (d + 51) mL_law 560 [.retAddr 4, .ref 0, .ref 54, .int x] [] (T, I, J, R) Q := by
  obtain ⟨h1, h2, h3, h4, h5⟩ := hx
  simp only [gL_law_560, h1, h2, not_false_eq_true, true_and]
  refine ⟨Rel_0 hR, jn_use (j_throwIn (d := d)) hR (fun z I1 J1 R1 hx => ?_)⟩
  simp only [Option.toList_some, List.cons_append, List.nil_append, gL_law_574, h1, h2, not_false_eq_true, true_and]
  refine ⟨Rel_54 hR, ex_mono (fun v2 σ2 g => ?_) hx⟩
  obtain ⟨rfl, g3⟩ := g
  simp only [Option.toList_some, List.cons_append, List.nil_append, gL_law_588, if_true]
  exact k σ2 g3
set_option maxRecDepth 50000 in
theorem lc_bridges (hx : ixL L xs x) (hR : Rel T I J R) (k : ∀ σ, Rl σ → Ex (rX L xs) (d + 51) mL_law 1443 [.retAddr 4, .ref 0, .ref 54, .int x] [] σ Q) : Ex (rX L xs) (d + 51) mL_law 593 [.retAddr 4, .ref 0, .ref 54, .int x] [] (T, I, J, R) Q := by
  obtain ⟨h1, h2, h3, h4, h5⟩ := hx
  simp only [gL_law_593, h1, h2, not_false_eq_true, true_and]
  refine ⟨Rel_0 hR, jn_use (j_bridges (d := d)) hR (fun z I1 J1 R1 hx => ?_)⟩
  simp only [Option.toList_some, List.cons_append, List.nil_append, gL_law_607, h1, h2, not_false_eq_true, true_and]
  refine ⟨Rel_54 hR, ex_mono (fun v2 σ2 g => ?_) hx⟩
  obtain ⟨rfl, g3⟩ := g
  simp only [Option.toList_some, List.cons_append, List.nil_append, gL_law_621, if_true]
  exact k σ2 g3
set_option maxRecDepth 50000 in
theorem lc_ring (hx : ixL L xs x) (hR : Rel T I J R) (k : ∀ σ, Rl σ → Ex (rX L xs) (d + 51) mL_law 1443 [.retAddr 4, .ref 0, .ref 54, .int x] [] σ Q) : Ex (rX L xs) (d + 51) mL_law 626 [.retAddr 4, .ref 0, .ref 54, .int x] [] (T, I, J, R) Q := by
  obtain ⟨h1, h2, h3, h4, h5⟩ := hx
  simp only [gL_law_626, h1, h2, not_false_eq_true, true_and]
  refine ⟨Rel_0 hR, jn_use (j_ring (d := d)) hR (fun z I1 J1 R1 hx => ?_)⟩
  simp only [Option.toList_some, List.cons_append, List.nil_append, gL_law_640, h1, h2, not_false_eq_true, true_and]
  refine ⟨Rel_54 hR, ex_mono (fun v2 σ2 g => ?_) hx⟩
  obtain ⟨rfl, g3⟩ := g
  simp only [Option.toList_some, List.cons_append, List.nil_append, gL_law_654, if_true]
  exact k σ2 g3
set_option maxRecDepth 50000 in
theorem lc_judge (hx : ixL L xs x) (hR : Rel T I J R) (k : ∀ σ, Rl σ → Ex (rX L xs) (d + 51) mL_law 1443 [.retAddr 4, .ref 0, .ref 54, .int x] [] σ Q) : Ex (rX L xs) (d + 51) mL_law 659 [.retAddr 4, .ref 0, .ref 54, .int x] [] (T, I, J, R) Q := by
  obtain ⟨h1, h2, h3, h4, h5⟩ := hx
  simp only [gL_law_659, h1, h2, not_false_eq_true, true_and]
  refine ⟨Rel_0 hR, jn_use (j_judge (d := d)) hR (fun z I1 J1 R1 hx => ?_)⟩
  simp only [Option.toList_some, List.cons_append, List.nil_append, gL_law_673, h1, h2, not_false_eq_true, true_and]
  refine ⟨Rel_54 hR, ex_mono (fun v2 σ2 g => ?_) hx⟩
  obtain ⟨rfl, g3⟩ := g
  simp only [Option.toList_some, List.cons_append, List.nil_append, gL_law_687, if_true]
  exact k σ2 g3
set_option maxRecDepth 50000 in
theorem lc_fits (hx : ixL L xs x) (hR : Rel T I J R) (k : ∀ σ, Rl σ → Ex (rX L xs) (d + 51) mL_law 1443 [.retAddr 4, .ref 0, .ref 54, .int x] [] σ Q) : Ex (rX L xs) (d + 51) mL_law 692 [.retAddr 4, .ref 0, .ref 54, .int x] [] (T, I, J, R) Q := by
  obtain ⟨h1, h2, h3, h4, h5⟩ := hx
  simp only [gL_law_692, h1, h2, h3, h4, not_false_eq_true, true_and]
  refine ⟨Rel_0 hR, jn_use (j_fits (d := d)) hR (fun z I1 J1 R1 hx => ?_)⟩
  simp only [Option.toList_some, List.cons_append, List.nil_append, gL_law_716, h1, h2, h3, h4, not_false_eq_true, true_and]
  refine ⟨Rel_54 hR, ex_mono (fun v2 σ2 g => ?_) hx⟩
  obtain ⟨rfl, g3⟩ := g
  simp only [Option.toList_some, List.cons_append, List.nil_append, gL_law_740, if_true]
  exact k σ2 g3
set_option maxRecDepth 50000 in
theorem lc_hears (hx : ixL L xs x) (hR : Rel T I J R) (k : ∀ σ, Rl σ → Ex (rX L xs) (d + 51) mL_law 1443 [.retAddr 4, .ref 0, .ref 54, .int x] [] σ Q) : Ex (rX L xs) (d + 51) mL_law 745 [.retAddr 4, .ref 0, .ref 54, .int x] [] (T, I, J, R) Q := by
  obtain ⟨h1, h2, h3, h4, h5⟩ := hx
  simp only [gL_law_745, h1, h2, not_false_eq_true, true_and]
  refine ⟨Rel_0 hR, jl_use (j_hears (d := d)) hR (fun z I1 J1 R1 hx => ?_)⟩
  simp only [Option.toList_some, List.cons_append, List.nil_append, gL_law_759, h1, h2, not_false_eq_true, true_and]
  refine ⟨Rel_54 hR, ex_mono (fun v2 σ2 g => ?_) hx⟩
  obtain ⟨rfl, g3⟩ := g
  simp only [Option.toList_some, List.cons_append, List.nil_append, gL_law_773, lg_0, if_true]
  exact k σ2 g3
set_option maxRecDepth 50000 in
theorem lc_odd (hx : ixL L xs x) (hR : Rel T I J R) (k : ∀ σ, Rl σ → Ex (rX L xs) (d + 51) mL_law 1443 [.retAddr 4, .ref 0, .ref 54, .int x] [] σ Q) : Ex (rX L xs) (d + 51) mL_law 779 [.retAddr 4, .ref 0, .ref 54, .int x] [] (T, I, J, R) Q := by
  obtain ⟨h1, h2, h3, h4, h5⟩ := hx
  simp only [gL_law_779, h1, h2, not_false_eq_true, true_and]
  refine ⟨Rel_0 hR, jn_use (j_odd (d := d)) hR (fun z I1 J1 R1 hx => ?_)⟩
  simp only [Option.toList_some, List.cons_append, List.nil_append, gL_law_793, h1, h2, not_false_eq_true, true_and]
  refine ⟨Rel_54 hR, ex_mono (fun v2 σ2 g => ?_) hx⟩
  obtain ⟨rfl, g3⟩ := g
  simp only [Option.toList_some, List.cons_append, List.nil_append, gL_law_807, if_true]
  exact k σ2 g3
set_option maxRecDepth 50000 in
theorem lc_byTurns (hx : ixL L xs x) (hR : Rel T I J R) (k : ∀ σ, Rl σ → Ex (rX L xs) (d + 51) mL_law 1443 [.retAddr 4, .ref 0, .ref 54, .int x] [] σ Q) : Ex (rX L xs) (d + 51) mL_law 812 [.retAddr 4, .ref 0, .ref 54, .int x] [] (T, I, J, R) Q := by
  obtain ⟨h1, h2, h3, h4, h5⟩ := hx
  simp only [gL_law_812, h1, h2, h3, not_false_eq_true, true_and]
  refine ⟨Rel_0 hR, jn_use (j_byTurns (d := d)) hR (fun z I1 J1 R1 hx => ?_)⟩
  simp only [Option.toList_some, List.cons_append, List.nil_append, gL_law_831, h1, h2, h3, not_false_eq_true, true_and]
  refine ⟨Rel_54 hR, ex_mono (fun v2 σ2 g => ?_) hx⟩
  obtain ⟨rfl, g3⟩ := g
  simp only [Option.toList_some, List.cons_append, List.nil_append, gL_law_850, if_true]
  exact k σ2 g3
set_option maxRecDepth 50000 in
theorem lc_drawn (hx : ixL L xs x) (hR : Rel T I J R) (k : ∀ σ, Rl σ → Ex (rX L xs) (d + 51) mL_law 1443 [.retAddr 4, .ref 0, .ref 54, .int x] [] σ Q) : Ex (rX L xs) (d + 51) mL_law 855 [.retAddr 4, .ref 0, .ref 54, .int x] [] (T, I, J, R) Q := by
  obtain ⟨h1, h2, h3, h4, h5⟩ := hx
  simp only [gL_law_855, h1, h2, h3, not_false_eq_true, true_and]
  refine ⟨Rel_0 hR, jn_use (j_drawn (d := d)) hR (fun z I1 J1 R1 hx => ?_)⟩
  simp only [Option.toList_some, List.cons_append, List.nil_append, gL_law_874, h1, h2, h3, not_false_eq_true, true_and]
  refine ⟨Rel_54 hR, ex_mono (fun v2 σ2 g => ?_) hx⟩
  obtain ⟨rfl, g3⟩ := g
  simp only [Option.toList_some, List.cons_append, List.nil_append, gL_law_893, if_true]
  exact k σ2 g3
set_option maxRecDepth 50000 in
theorem lc_day (hx : ixL L xs x) (hR : Rel T I J R) (k : ∀ σ, Rl σ → Ex (rX L xs) (d + 51) mL_law 1443 [.retAddr 4, .ref 0, .ref 54, .int x] [] σ Q) : Ex (rX L xs) (d + 51) mL_law 898 [.retAddr 4, .ref 0, .ref 54, .int x] [] (T, I, J, R) Q := by
  obtain ⟨h1, h2, h3, h4, h5⟩ := hx
  simp only [gL_law_898]
  refine ⟨Rel_0 hR, jn_use (j_day (d := d)) hR (fun z I1 J1 R1 hx => ?_)⟩
  simp only [Option.toList_some, List.cons_append, List.nil_append, gL_law_902]
  refine ⟨Rel_54 hR, ex_mono (fun v2 σ2 g => ?_) hx⟩
  obtain ⟨rfl, g3⟩ := g
  simp only [Option.toList_some, List.cons_append, List.nil_append, gL_law_906, if_true]
  exact k σ2 g3
set_option maxRecDepth 50000 in
theorem lc_gift (hx : ixL L xs x) (hR : Rel T I J R) (k : ∀ σ, Rl σ → Ex (rX L xs) (d + 51) mL_law 1443 [.retAddr 4, .ref 0, .ref 54, .int x] [] σ Q) : Ex (rX L xs) (d + 51) mL_law 911 [.retAddr 4, .ref 0, .ref 54, .int x] [] (T, I, J, R) Q := by
  obtain ⟨h1, h2, h3, h4, h5⟩ := hx
  simp only [gL_law_911, h1, h2, not_false_eq_true, true_and]
  refine ⟨Rel_0 hR, jn_use (j_gift (d := d)) hR (fun z I1 J1 R1 hx => ?_)⟩
  simp only [Option.toList_some, List.cons_append, List.nil_append, gL_law_925, h1, h2, not_false_eq_true, true_and]
  refine ⟨Rel_54 hR, ex_mono (fun v2 σ2 g => ?_) hx⟩
  obtain ⟨rfl, g3⟩ := g
  simp only [Option.toList_some, List.cons_append, List.nil_append, gL_law_939, if_true]
  exact k σ2 g3
set_option maxRecDepth 50000 in
theorem lc_build (hx : ixL L xs x) (hR : Rel T I J R) (k : ∀ σ, Rl σ → Ex (rX L xs) (d + 51) mL_law 1443 [.retAddr 4, .ref 0, .ref 54, .int x] [] σ Q) : Ex (rX L xs) (d + 51) mL_law 944 [.retAddr 4, .ref 0, .ref 54, .int x] [] (T, I, J, R) Q := by
  obtain ⟨h1, h2, h3, h4, h5⟩ := hx
  simp only [gL_law_944, h1, h2, not_false_eq_true, true_and]
  refine ⟨Rel_0 hR, jn_use (j_build (d := d)) hR (fun z I1 J1 R1 hx => ?_)⟩
  simp only [Option.toList_some, List.cons_append, List.nil_append, gL_law_958, h1, h2, not_false_eq_true, true_and]
  refine ⟨Rel_54 hR, ex_mono (fun v2 σ2 g => ?_) hx⟩
  obtain ⟨rfl, g3⟩ := g
  simp only [Option.toList_some, List.cons_append, List.nil_append, gL_law_972, if_true]
  exact k σ2 g3
set_option maxRecDepth 50000 in
theorem lc_led (hx : ixL L xs x) (hR : Rel T I J R) (k : ∀ σ, Rl σ → Ex (rX L xs) (d + 51) mL_law 1443 [.retAddr 4, .ref 0, .ref 54, .int x] [] σ Q) : Ex (rX L xs) (d + 51) mL_law 977 [.retAddr 4, .ref 0, .ref 54, .int x] [] (T, I, J, R) Q := by
  obtain ⟨h1, h2, h3, h4, h5⟩ := hx
  simp only [gL_law_977, h1, not_false_eq_true, true_and]
  refine ⟨Rel_0 hR, jn_use (j_led (d := d)) hR (fun z I1 J1 R1 hx => ?_)⟩
  simp only [Option.toList_some, List.cons_append, List.nil_append, gL_law_986, h1, not_false_eq_true, true_and]
  refine ⟨Rel_54 hR, ex_mono (fun v2 σ2 g => ?_) hx⟩
  obtain ⟨rfl, g3⟩ := g
  simp only [Option.toList_some, List.cons_append, List.nil_append, gL_law_995, if_true]
  exact k σ2 g3
set_option maxRecDepth 50000 in
theorem lc_image (hx : ixL L xs x) (hR : Rel T I J R) (k : ∀ σ, Rl σ → Ex (rX L xs) (d + 51) mL_law 1443 [.retAddr 4, .ref 0, .ref 54, .int x] [] σ Q) : Ex (rX L xs) (d + 51) mL_law 1000 [.retAddr 4, .ref 0, .ref 54, .int x] [] (T, I, J, R) Q := by
  obtain ⟨h1, h2, h3, h4, h5⟩ := hx
  simp only [gL_law_1000]
  refine ⟨Rel_0 hR, jn_use (j_image (d := d)) hR (fun z I1 J1 R1 hx => ?_)⟩
  simp only [Option.toList_some, List.cons_append, List.nil_append, gL_law_1004]
  refine ⟨Rel_54 hR, ex_mono (fun v2 σ2 g => ?_) hx⟩
  obtain ⟨rfl, g3⟩ := g
  simp only [Option.toList_some, List.cons_append, List.nil_append, gL_law_1008, if_true]
  exact k σ2 g3
set_option maxRecDepth 50000 in
theorem lc_back (hx : ixL L xs x) (hR : Rel T I J R) (k : ∀ σ, Rl σ → Ex (rX L xs) (d + 51) mL_law 1443 [.retAddr 4, .ref 0, .ref 54, .int x] [] σ Q) : Ex (rX L xs) (d + 51) mL_law 1013 [.retAddr 4, .ref 0, .ref 54, .int x] [] (T, I, J, R) Q := by
  obtain ⟨h1, h2, h3, h4, h5⟩ := hx
  simp only [gL_law_1013]
  refine ⟨Rel_0 hR, jn_use (j_back (d := d)) hR (fun z I1 J1 R1 hx => ?_)⟩
  simp only [Option.toList_some, List.cons_append, List.nil_append, gL_law_1017]
  refine ⟨Rel_54 hR, ex_mono (fun v2 σ2 g => ?_) hx⟩
  obtain ⟨rfl, g3⟩ := g
  simp only [Option.toList_some, List.cons_append, List.nil_append, gL_law_1021, if_true]
  exact k σ2 g3
set_option maxRecDepth 50000 in
theorem lc_undo (hx : ixL L xs x) (hR : Rel T I J R) (k : ∀ σ, Rl σ → Ex (rX L xs) (d + 51) mL_law 1443 [.retAddr 4, .ref 0, .ref 54, .int x] [] σ Q) : Ex (rX L xs) (d + 51) mL_law 1026 [.retAddr 4, .ref 0, .ref 54, .int x] [] (T, I, J, R) Q := by
  obtain ⟨h1, h2, h3, h4, h5⟩ := hx
  simp only [gL_law_1026]
  refine ⟨Rel_0 hR, jn_use (j_undo (d := d)) hR (fun z I1 J1 R1 hx => ?_)⟩
  simp only [Option.toList_some, List.cons_append, List.nil_append, gL_law_1030]
  refine ⟨Rel_54 hR, ex_mono (fun v2 σ2 g => ?_) hx⟩
  obtain ⟨rfl, g3⟩ := g
  simp only [Option.toList_some, List.cons_append, List.nil_append, gL_law_1034, if_true]
  exact k σ2 g3
set_option maxRecDepth 50000 in
theorem lc_redo (hx : ixL L xs x) (hR : Rel T I J R) (k : ∀ σ, Rl σ → Ex (rX L xs) (d + 51) mL_law 1443 [.retAddr 4, .ref 0, .ref 54, .int x] [] σ Q) : Ex (rX L xs) (d + 51) mL_law 1039 [.retAddr 4, .ref 0, .ref 54, .int x] [] (T, I, J, R) Q := by
  obtain ⟨h1, h2, h3, h4, h5⟩ := hx
  simp only [gL_law_1039]
  refine ⟨Rel_0 hR, jn_use (j_redo (d := d)) hR (fun z I1 J1 R1 hx => ?_)⟩
  simp only [Option.toList_some, List.cons_append, List.nil_append, gL_law_1043]
  refine ⟨Rel_54 hR, ex_mono (fun v2 σ2 g => ?_) hx⟩
  obtain ⟨rfl, g3⟩ := g
  simp only [Option.toList_some, List.cons_append, List.nil_append, gL_law_1047, if_true]
  exact k σ2 g3
set_option maxRecDepth 50000 in
theorem lc_body (hx : ixL L xs x) (hR : Rel T I J R) (k : ∀ σ, Rl σ → Ex (rX L xs) (d + 51) mL_law 1443 [.retAddr 4, .ref 0, .ref 54, .int x] [] σ Q) : Ex (rX L xs) (d + 51) mL_law 1052 [.retAddr 4, .ref 0, .ref 54, .int x] [] (T, I, J, R) Q := by
  obtain ⟨h1, h2, h3, h4, h5⟩ := hx
  simp only [gL_law_1052, h1, not_false_eq_true, true_and]
  refine ⟨Rel_0 hR, jn_use (j_body (d := d)) hR (fun z I1 J1 R1 hx => ?_)⟩
  simp only [Option.toList_some, List.cons_append, List.nil_append, gL_law_1061, h1, not_false_eq_true, true_and]
  refine ⟨Rel_54 hR, ex_mono (fun v2 σ2 g => ?_) hx⟩
  obtain ⟨rfl, g3⟩ := g
  simp only [Option.toList_some, List.cons_append, List.nil_append, gL_law_1070, if_true]
  exact k σ2 g3
set_option maxRecDepth 50000 in
theorem lc_act (hx : ixL L xs x) (hR : Rel T I J R) (k : ∀ σ, Rl σ → Ex (rX L xs) (d + 51) mL_law 1443 [.retAddr 4, .ref 0, .ref 54, .int x] [] σ Q) : Ex (rX L xs) (d + 51) mL_law 1075 [.retAddr 4, .ref 0, .ref 54, .int x] [] (T, I, J, R) Q := by
  obtain ⟨h1, h2, h3, h4, h5⟩ := hx
  simp only [gL_law_1075, h1, h2, h3, not_false_eq_true, true_and]
  refine ⟨Rel_0 hR, jn_use (j_act (d := d)) hR (fun z I1 J1 R1 hx => ?_)⟩
  simp only [Option.toList_some, List.cons_append, List.nil_append, gL_law_1094, h1, h2, h3, not_false_eq_true, true_and]
  refine ⟨Rel_54 hR, ex_mono (fun v2 σ2 g => ?_) hx⟩
  obtain ⟨rfl, g3⟩ := g
  simp only [Option.toList_some, List.cons_append, List.nil_append, gL_law_1113, if_true]
  exact k σ2 g3
set_option maxRecDepth 50000 in
theorem lc_trace (hx : ixL L xs x) (hR : Rel T I J R) (k : ∀ σ, Rl σ → Ex (rX L xs) (d + 51) mL_law 1443 [.retAddr 4, .ref 0, .ref 54, .int x] [] σ Q) : Ex (rX L xs) (d + 51) mL_law 1118 [.retAddr 4, .ref 0, .ref 54, .int x] [] (T, I, J, R) Q := by
  obtain ⟨h1, h2, h3, h4, h5⟩ := hx
  simp only [gL_law_1118, h1, not_false_eq_true, true_and]
  refine ⟨Rel_0 hR, jn_use (j_trace (d := d)) hR (fun z I1 J1 R1 hx => ?_)⟩
  simp only [Option.toList_some, List.cons_append, List.nil_append, gL_law_1127, h1, not_false_eq_true, true_and]
  refine ⟨Rel_54 hR, ex_mono (fun v2 σ2 g => ?_) hx⟩
  obtain ⟨rfl, g3⟩ := g
  simp only [Option.toList_some, List.cons_append, List.nil_append, gL_law_1136, if_true]
  exact k σ2 g3
set_option maxRecDepth 50000 in
theorem lc_keep (hx : ixL L xs x) (hR : Rel T I J R) (k : ∀ σ, Rl σ → Ex (rX L xs) (d + 51) mL_law 1443 [.retAddr 4, .ref 0, .ref 54, .int x] [] σ Q) : Ex (rX L xs) (d + 51) mL_law 1141 [.retAddr 4, .ref 0, .ref 54, .int x] [] (T, I, J, R) Q := by
  obtain ⟨h1, h2, h3, h4, h5⟩ := hx
  simp only [gL_law_1141, h1, h2, not_false_eq_true, true_and]
  refine ⟨Rel_0 hR, jn_use (j_keep (d := d)) hR (fun z I1 J1 R1 hx => ?_)⟩
  simp only [Option.toList_some, List.cons_append, List.nil_append, gL_law_1155, h1, h2, not_false_eq_true, true_and]
  refine ⟨Rel_54 hR, ex_mono (fun v2 σ2 g => ?_) hx⟩
  obtain ⟨rfl, g3⟩ := g
  simp only [Option.toList_some, List.cons_append, List.nil_append, gL_law_1169, if_true]
  exact k σ2 g3
set_option maxRecDepth 50000 in
theorem lc_row (hx : ixL L xs x) (hR : Rel T I J R) (k : ∀ σ, Rl σ → Ex (rX L xs) (d + 51) mL_law 1443 [.retAddr 4, .ref 0, .ref 54, .int x] [] σ Q) : Ex (rX L xs) (d + 51) mL_law 1174 [.retAddr 4, .ref 0, .ref 54, .int x] [] (T, I, J, R) Q := by
  obtain ⟨h1, h2, h3, h4, h5⟩ := hx
  simp only [gL_law_1174, h1, h2, h3, not_false_eq_true, true_and]
  refine ⟨Rel_0 hR, jn_use (j_row (d := d)) hR (fun z I1 J1 R1 hx => ?_)⟩
  simp only [Option.toList_some, List.cons_append, List.nil_append, gL_law_1193, h1, h2, h3, not_false_eq_true, true_and]
  refine ⟨Rel_54 hR, ex_mono (fun v2 σ2 g => ?_) hx⟩
  obtain ⟨rfl, g3⟩ := g
  simp only [Option.toList_some, List.cons_append, List.nil_append, gL_law_1212, if_true]
  exact k σ2 g3
set_option maxRecDepth 50000 in
theorem lc_put (hx : ixL L xs x) (hR : Rel T I J R) (k : ∀ σ, Rl σ → Ex (rX L xs) (d + 51) mL_law 1443 [.retAddr 4, .ref 0, .ref 54, .int x] [] σ Q) : Ex (rX L xs) (d + 51) mL_law 1217 [.retAddr 4, .ref 0, .ref 54, .int x] [] (T, I, J, R) Q := by
  obtain ⟨h1, h2, h3, h4, h5⟩ := hx
  simp only [gL_law_1217, h1, h2, h3, h4, not_false_eq_true, true_and]
  refine ⟨Rel_0 hR, jn_use (j_put (d := d)) hR (fun z I1 J1 R1 hx => ?_)⟩
  simp only [Option.toList_some, List.cons_append, List.nil_append, gL_law_1251, h1, h2, h3, h4, not_false_eq_true, true_and]
  refine ⟨Rel_54 hR, ex_mono (fun v2 σ2 g => ?_) hx⟩
  obtain ⟨rfl, g3⟩ := g
  simp only [Option.toList_some, List.cons_append, List.nil_append, gL_law_1285, if_true]
  exact k σ2 g3
set_option maxRecDepth 50000 in
theorem lc_element (hx : ixL L xs x) (hR : Rel T I J R) (k : ∀ σ, Rl σ → Ex (rX L xs) (d + 51) mL_law 1443 [.retAddr 4, .ref 0, .ref 54, .int x] [] σ Q) : Ex (rX L xs) (d + 51) mL_law 1290 [.retAddr 4, .ref 0, .ref 54, .int x] [] (T, I, J, R) Q := by
  obtain ⟨h1, h2, h3, h4, h5⟩ := hx
  simp only [gL_law_1290, h1, h2, not_false_eq_true, true_and]
  refine ⟨Rel_0 hR, jl_use (j_element (d := d)) hR (fun z I1 J1 R1 hx => ?_)⟩
  simp only [Option.toList_some, List.cons_append, List.nil_append, gL_law_1304, h1, h2, not_false_eq_true, true_and]
  refine ⟨Rel_54 hR, ex_mono (fun v2 σ2 g => ?_) hx⟩
  obtain ⟨rfl, g3⟩ := g
  simp only [Option.toList_some, List.cons_append, List.nil_append, gL_law_1318, lg_0, if_true]
  exact k σ2 g3
set_option maxRecDepth 50000 in
theorem lc_shift (hx : ixL L xs x) (hR : Rel T I J R) (k : ∀ σ, Rl σ → Ex (rX L xs) (d + 51) mL_law 1443 [.retAddr 4, .ref 0, .ref 54, .int x] [] σ Q) : Ex (rX L xs) (d + 51) mL_law 1324 [.retAddr 4, .ref 0, .ref 54, .int x] [] (T, I, J, R) Q := by
  obtain ⟨h1, h2, h3, h4, h5⟩ := hx
  simp only [gL_law_1324, h1, h2, h3, h4, h5, not_false_eq_true, true_and]
  refine ⟨Rel_0 hR, jn_use (j_shift (d := d)) hR (fun z I1 J1 R1 hx => ?_)⟩
  simp only [Option.toList_some, List.cons_append, List.nil_append, gL_law_1353, h1, h2, h3, h4, h5, not_false_eq_true, true_and]
  refine ⟨Rel_54 hR, ex_mono (fun v2 σ2 g => ?_) hx⟩
  obtain ⟨rfl, g3⟩ := g
  simp only [Option.toList_some, List.cons_append, List.nil_append, gL_law_1382, if_true]
  exact k σ2 g3
set_option maxRecDepth 50000 in
theorem lc_taken (hx : ixL L xs x) (hR : Rel T I J R) (k : ∀ σ, Rl σ → Ex (rX L xs) (d + 51) mL_law 1443 [.retAddr 4, .ref 0, .ref 54, .int x] [] σ Q) : Ex (rX L xs) (d + 51) mL_law 1387 [.retAddr 4, .ref 0, .ref 54, .int x] [] (T, I, J, R) Q := by
  obtain ⟨h1, h2, h3, h4, h5⟩ := hx
  simp only [gL_law_1387, h1, h2, not_false_eq_true, true_and]
  refine ⟨Rel_0 hR, jn_use (j_taken (d := d)) hR (fun z I1 J1 R1 hx => ?_)⟩
  simp only [Option.toList_some, List.cons_append, List.nil_append, gL_law_1401, h1, h2, not_false_eq_true, true_and]
  refine ⟨Rel_54 hR, ex_mono (fun v2 σ2 g => ?_) hx⟩
  obtain ⟨rfl, g3⟩ := g
  simp only [Option.toList_some, List.cons_append, List.nil_append, gL_law_1415, if_true]
  exact k σ2 g3
set_option maxRecDepth 50000 in
theorem lc_count (hx : ixL L xs x) (hR : Rel T I J R) (k : ∀ σ, Rl σ → Ex (rX L xs) (d + 51) mL_law 1443 [.retAddr 4, .ref 0, .ref 54, .int x] [] σ Q) : Ex (rX L xs) (d + 51) mL_law 1420 [.retAddr 4, .ref 0, .ref 54, .int x] [] (T, I, J, R) Q := by
  obtain ⟨h1, h2, h3, h4, h5⟩ := hx
  simp only [gL_law_1420, h1, not_false_eq_true, true_and]
  refine ⟨Rel_0 hR, jn_use (j_count (d := d)) hR (fun z I1 J1 R1 hx => ?_)⟩
  simp only [Option.toList_some, List.cons_append, List.nil_append, gL_law_1429, h1, not_false_eq_true, true_and]
  refine ⟨Rel_54 hR, ex_mono (fun v2 σ2 g => ?_) hx⟩
  obtain ⟨rfl, g3⟩ := g
  simp only [Option.toList_some, List.cons_append, List.nil_append, gL_law_1438, if_true]
  exact k σ2 g3
end LP
