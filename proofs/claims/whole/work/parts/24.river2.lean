/-! PURE: the River's numbers by name -/
def hasB (n : Nat) (x w : Int32) : Bool := decide (¬ w < 0 ∧ w ≤ 6 ∧ ¬ x < 0 ∧ ¬ (if 3 < w then (if w = 4 then 7 else 1) else nI n) ≤ x)
def fitB (w v : Int32) : Bool := decide (¬ w < 0 ∧ w ≤ 6 ∧ ¬ v < (rTb 0).getD w.toNatClampNeg 0 ∧ ¬ (rTb 1).getD w.toNatClampNeg 0 < v)
def getS (r : Nat → Nat → Int32) (w i : Nat) : Int32 := if w ≤ 4 then r w i else r 5 (w - 5)
def putS (r : Nat → Nat → Int32) (w i : Nat) (v : Int32) : Nat → Nat → Int32 := if w ≤ 4 then va_up r w (va_up (r w) i v) else va_up r 5 (va_up (r 5) (w - 5) v)
theorem z_6 {w : Int32} (h0 : ¬ w < 0) (h6 : w ≤ 6) : ∃ j : Nat, j ≤ 6 ∧ w = nI j := nI_of2 (M := 6) (n := 6) (by decide) h0 h6
theorem hasB_t {n : Nat} {x w : Int32} (h : hasB n x w = true) (h8 : n ≤ 8) : ∃ j i : Nat, w = nI j ∧ x = nI i ∧ j ≤ 6 ∧ i < (if j ≤ 3 then n else if j = 4 then 7 else 1) := by
  have h1 := of_decide_eq_true h
  obtain ⟨j, hj, rfl⟩ := z_6 h1.1 h1.2.1
  obtain ⟨i, hi, rfl⟩ := nI_of h1.2.2.1
  refine ⟨j, i, rfl, rfl, hj, ?_⟩
  have h2 := h1.2.2.2
  refine Classical.byContradiction fun q => h2 ?_
  have hj' : j = 0 ∨ j = 1 ∨ j = 2 ∨ j = 3 ∨ j = 4 ∨ j = 5 ∨ j = 6 := by omega
  rcases hj' with rfl | rfl | rfl | rfl | rfl | rfl | rfl
  all_goals simp at q
  · rw [if_neg (by decide)]; exact nI_le q hi
  · rw [if_neg (by decide)]; exact nI_le q hi
  · rw [if_neg (by decide)]; exact nI_le q hi
  · rw [if_neg (by decide)]; exact nI_le q hi
  · rw [if_pos (by decide), if_pos (by decide)]; exact nI_le (a := 7) q hi
  · rw [if_pos (by decide), if_neg (by decide)]; exact nI_le (a := 1) (by omega) hi
  · rw [if_pos (by decide), if_neg (by decide)]; exact nI_le (a := 1) (by omega) hi
section PN
variable {X : tX} {T : tT} {I : tI} {J : tJ} {R : tR} {Q : tQ} {d a b c p n sz t D L0 : Nat} {σ : rS} {xs : Nat → Int32}
theorem p_has {x w : Int32} (hv : IsRiv T R a) (hn : I a 8 = nI n) (k : Q (some (.int (if hasB n x w = true then 1 else 0))) (T, I, J, R)) : Ex X d mX3_has 0 [.ref a, .int x, .int w, rU] [] (T, I, J, R) Q := by
  obtain ⟨t0, -⟩ := hv
  have bad : (¬ (¬ w < 0 ∧ w ≤ 6 ∧ ¬ x < 0 ∧ ¬ (if 3 < w then (if w = 4 then 7 else 1) else nI n) ≤ x)) → Q (some (.int 0)) (T, I, J, R) := fun q => by
    rw [show hasB n x w = false from decide_eq_false q] at k
    exact k
  simp only [gX3_has_0]
  by_cases h1 : w < 0
  · simp only [h1, if_true, gX3_has_10, true_or, true_and]
    exact bad (fun q => q.1 h1)
  simp only [h1, if_false, gX3_has_4]
  by_cases h2 : w ≤ 6
  · simp only [h2, if_true]
    have fin : ∀ m : Int32, m = (if 3 < w then (if w = 4 then 7 else 1) else nI n) → Ex X d mX3_has 35 [.ref a, .int x, .int w, rU] [.int m] (T, I, J, R) Q := by
      intro m hm
      simp only [gX3_has_35]
      by_cases h3 : x < 0
      · simp only [h3, if_true, gX3_has_49, gX3_has_50, true_or, true_and]
        exact bad (fun q => q.2.2.1 h3)
      simp only [h3, if_false, gX3_has_40]
      by_cases h4 : m ≤ x
      · simp only [h4, if_true, gX3_has_49, gX3_has_50, true_or, true_and]
        exact bad (fun q => q.2.2.2 (by rw [← hm]; exact h4))
      · simp only [h4, if_false, gX3_has_45, gX3_has_50, or_true, true_and]
        rw [show hasB n x w = true from decide_eq_true ⟨h1, h2, h3, by rw [← hm]; exact h4⟩] at k
        exact k
    simp only [gX3_has_12]
    by_cases h3 : 3 < w
    · simp only [h3, if_true, gX3_has_24]
      by_cases h4 : w = 4
      · simp only [h4, if_true, gX3_has_29]
        have := fin 7 (by rw [if_pos h3, if_pos h4])
        rw [h4] at this
        exact this
      · simp only [h4, if_false, gX3_has_34]
        exact fin 1 (by rw [if_pos h3, if_neg h4])
    · simp only [h3, if_false, gX3_has_17, t0, true_and, hn]
      exact fin (nI n) (by rw [if_neg h3])
  · simp only [h2, if_false, gX3_has_10, true_or, true_and]
    exact bad (fun q => h2 q.2.1)
theorem p_fitsIn {w v : Int32} (k : Q (some (.int (if fitB w v = true then 1 else 0))) σ) : Ex (rX L0 xs) d mX3_fitsIn 0 [.int w, .int v] [] σ Q := by
  obtain ⟨T, I, J, R⟩ := σ
  have bad : (¬ (¬ w < 0 ∧ w ≤ 6 ∧ ¬ v < (rTb 0).getD w.toNatClampNeg 0 ∧ ¬ (rTb 1).getD w.toNatClampNeg 0 < v)) → Q (some (.int 0)) (T, I, J, R) := fun q => by
    rw [show fitB w v = false from decide_eq_false q] at k
    exact k
  have x0 : rX L0 xs 0 = (7, fun q => (rTb 0).getD q 0) := rfl
  have x1 : rX L0 xs 1 = (7, fun q => (rTb 1).getD q 0) := rfl
  simp only [gX3_fitsIn_0]
  by_cases h1 : w < 0
  · simp only [h1, if_true, gX3_fitsIn_32, gX3_fitsIn_33, true_or, true_and]
    exact bad (fun q => q.1 h1)
  simp only [h1, if_false, gX3_fitsIn_4]
  by_cases h2 : w ≤ 6
  · have h2' : ¬ 6 < w := Int32.not_lt.mpr h2
    have hin : ¬ (w < 0 ∨ 7 ≤ w.toNatClampNeg) := by
      obtain ⟨j, hj, rfl⟩ := z_6 h1 h2
      rw [nI_clamp (by omega)]
      rintro (q | q)
      · exact h1 q
      · omega
    have hin2 : ¬ (False ∨ 7 ≤ w.toNatClampNeg) := fun q => hin (Or.inr (q.resolve_left id))
    simp only [h2', if_false, gX3_fitsIn_10, x0, h1, hin2, not_false_eq_true, true_and]
    by_cases h3 : v < (rTb 0).getD w.toNatClampNeg 0
    · simp only [h3, if_true, gX3_fitsIn_32, gX3_fitsIn_33, true_or, true_and]
      exact bad (fun q => q.2.2.1 h3)
    · simp only [h3, if_false, gX3_fitsIn_19, x1, h1, hin2, not_false_eq_true, true_and]
      by_cases h4 : (rTb 1).getD w.toNatClampNeg 0 < v
      · simp only [h4, if_true, gX3_fitsIn_32, gX3_fitsIn_33, true_or, true_and]
        exact bad (fun q => q.2.2.2 h4)
      · simp only [h4, if_false, gX3_fitsIn_28, gX3_fitsIn_33, or_true, true_and]
        rw [show fitB w v = true from decide_eq_true ⟨h1, h2, h3, h4⟩] at k
        exact k
  · have h2' : 6 < w := Int32.not_le.mp h2
    simp only [h2', if_true, gX3_fitsIn_32, gX3_fitsIn_33, true_or, true_and]
    exact bad (fun q => h2 q.2.1)
theorem p_numbers {j : Nat} (hv : IsRiv T R a) (hj : j ≤ 4) (k : Q (some (.ref (a + 1 + j))) (T, I, J, R)) : Ex X d mX3_numbers 0 [.ref a, .int (nI j)] [] (T, I, J, R) Q := by
  obtain ⟨t0, t1, t2, t3, t4, t5, t6, r0, r1, r2, r3, r4, r5⟩ := hv
  simp only [gX3_numbers_0, sX3_numbers_1]
  have hj' : j = 0 ∨ j = 1 ∨ j = 2 ∨ j = 3 ∨ j = 4 := by omega
  rcases hj' with rfl | rfl | rfl | rfl | rfl
  · simp only [show nI 0 = 0 by decide, if_true, gX3_numbers_32, t0, true_and, r0, rf_some]
    exact k
  · simp only [show ¬ nI 1 = 0 by decide, show nI 1 = 1 by decide, if_true, if_false, gX3_numbers_37, t0, true_and, r1, rf_some, show ¬ (1 : Int32) = 0 by decide]
    exact k
  · simp only [show nI 2 = 2 by decide, if_true, if_false, gX3_numbers_42, t0, true_and, r2, rf_some, show ¬ (2 : Int32) = 0 by decide, show ¬ (2 : Int32) = 1 by decide]
    exact k
  · simp only [show nI 3 = 3 by decide, if_true, if_false, gX3_numbers_47, t0, true_and, r3, rf_some, show ¬ (3 : Int32) = 0 by decide, show ¬ (3 : Int32) = 1 by decide, show ¬ (3 : Int32) = 2 by decide]
    exact k
  · simp only [show nI 4 = 4 by decide, if_true, if_false, gX3_numbers_52, t0, true_and, r4, rf_some, show ¬ (4 : Int32) = 0 by decide, show ¬ (4 : Int32) = 1 by decide, show ¬ (4 : Int32) = 2 by decide, show ¬ (4 : Int32) = 3 by decide]
    exact k
theorem vw_6 (I : tI) (a : Nat) {q : Nat} (e : Nat) (hq : 6 ≤ q) : vw I a q e = 0 := by
  unfold vw
  rw [if_neg (by omega), if_neg (by omega), if_neg (by omega), if_neg (by omega), if_neg (by omega), if_neg (by omega)]
theorem vw_row {j : Nat} (I : tI) (a i : Nat) (hj : j ≤ 4) : vw I a j i = I (a + 1 + j) i := by
  have hj' : j = 0 ∨ j = 1 ∨ j = 2 ∨ j = 3 ∨ j = 4 := by omega
  rcases hj' with rfl | rfl | rfl | rfl | rfl <;> rfl
theorem z_row (hv : IsRiv T R a) {j i : Nat} (hj : j ≤ 4) (hi : i < (if j ≤ 3 then n else if j = 4 then 7 else 1)) (h8 : n ≤ 8) : rIn T (a + 1 + j) 0 (nI i) := by
  obtain ⟨t0, t1, t2, t3, t4, t5, t6, r0, r1, r2, r3, r4, r5⟩ := hv
  have hj' : j = 0 ∨ j = 1 ∨ j = 2 ∨ j = 3 ∨ j = 4 := by omega
  rcases hj' with rfl | rfl | rfl | rfl | rfl
  · exact rIn_at t1 (by simp at hi; omega) (by decide)
  · exact rIn_at t2 (by simp at hi; omega) (by decide)
  · exact rIn_at t3 (by simp at hi; omega) (by decide)
  · exact rIn_at t4 (by simp at hi; omega) (by decide)
  · exact rIn_at t5 (by simp at hi; omega) (by decide)
theorem p_numberOf {j i : Nat} (hv : IsRiv T R a) (hn : I a 8 = nI n) (h8 : n ≤ 8) (hb : hasB n (nI i) (nI j) = true) (hj : j ≤ 6) (hi : i < (if j ≤ 3 then n else if j = 4 then 7 else 1)) (k : Q (some (.int (getS (vw I a) j i))) (T, I, J, R)) : Ex X (d + 1) mX3_numberOf 0 [.ref a, .int (nI i), .int (nI j)] [] (T, I, J, R) Q := by
  obtain ⟨t0, t1, t2, t3, t4, t5, t6, r0, r1, r2, r3, r4, r5⟩ := id hv
  simp only [gX3_numberOf_0, t0, true_and]
  refine p_has hv hn ?_
  simp only [hb, if_true, Option.toList_some, List.cons_append, List.nil_append, gX3_numberOf_6, show ¬ (1 : Int32) = 0 by decide, if_false, gX3_numberOf_11]
  by_cases h5 : j = 5
  · subst h5
    simp only [show nI 5 = 5 by decide, if_true, gX3_numberOf_16, gX3_numberOf_43, t0, true_and]
    exact k
  have h5' : ¬ nI j = 5 := fun q => h5 ((nI_eq (by omega) (by decide)).mp (show nI j = nI 5 from q))
  simp only [h5', if_false, gX3_numberOf_23]
  by_cases h6 : j = 6
  · subst h6
    simp only [show nI 6 = 6 by decide, if_true, gX3_numberOf_29, gX3_numberOf_43, t0, true_and]
    exact k
  have h6' : ¬ nI j = 6 := fun q => h6 ((nI_eq (by omega) (by decide)).mp (show nI j = nI 6 from q))
  have hj4 : j ≤ 4 := by omega
  simp only [h6', if_false, gX3_numberOf_36, t0, true_and]
  refine p_numbers hv hj4 ?_
  have hcl : (nI i).toNatClampNeg = i := nI_clamp (by (repeat' split at hi) <;> omega)
  simp only [Option.toList_some, List.cons_append, List.nil_append, gX3_numberOf_41, gX3_numberOf_43, z_row hv hj4 hi h8, true_and, hcl]
  unfold getS at k
  rw [if_pos hj4, vw_row I a i hj4] at k
  exact k
theorem p_become {j i : Nat} {v : Int32} (hv : IsRiv T R a) (hn : I a 8 = nI n) (h8 : n ≤ 8) (hb : hasB n (nI i) (nI j) = true) (hfb : fitB (nI j) v = true) (hj : j ≤ 6) (hi : i < (if j ≤ 3 then n else if j = 4 then 7 else 1))
    (k : ∀ I' : tI, (∀ x, (x < a ∨ a + 5 < x) → I' x = I x) → I' a 8 = I a 8 → vw I' a = putS (vw I a) j i v → Q none (T, I', J, R)) : Ex (rX L0 xs) (d + 1) mX3_become 0 [.ref a, .int (nI i), .int (nI j), .int v] [] (T, I, J, R) Q := by
  obtain ⟨t0, t1, t2, t3, t4, t5, t6, r0, r1, r2, r3, r4, r5⟩ := id hv
  simp only [gX3_become_0, t0, true_and]
  refine p_has hv hn ?_
  simp only [hb, if_true, Option.toList_some, List.cons_append, List.nil_append, gX3_become_6, show ¬ (1 : Int32) = 0 by decide, if_false, gX3_become_9]
  refine p_fitsIn ?_
  simp only [hfb, if_true, Option.toList_some, List.cons_append, List.nil_append, gX3_become_14, show ¬ (1 : Int32) = 0 by decide, if_false, gX3_become_18]
  have big : ∀ m, 5 ≤ m → m ≤ 6 → j = m → Q none (T, va_up I a (va_up (I a) (m + 1) v), J, R) := by
    intro m hm1 hm2 hjm
    refine k _ (fun x hx => up_ne _ _ (by omega)) (by rw [up_self, up_ne _ _ (by omega)]) ?_
    funext q e
    unfold putS
    rw [if_neg (by omega)]
    by_cases hq : q = 0 ∨ q = 1 ∨ q = 2 ∨ q = 3 ∨ q = 4
    · rw [up_ne _ _ (by omega), vw_row _ a e (by omega), vw_row _ a e (by omega), up_ne _ _ (by omega)]
    · by_cases hq5 : q = 5
      · subst hq5
        rw [up_self]
        show va_up I a _ a (6 + e) = _
        rw [up_self]
        by_cases he : e = j - 5
        · subst he
          rw [up_self, show 6 + (j - 5) = m + 1 by omega, up_self]
        · rw [up_ne _ _ he, up_ne _ _ (by omega)]
          rfl
      · rw [up_ne _ _ hq5, vw_6 _ a e (by omega), vw_6 _ a e (by omega)]
  by_cases h5 : j = 5
  · have h5' : nI j = 5 := by rw [h5]; decide
    simp only [h5', if_true, gX3_become_23, gX3_become_53, t0, true_and]
    exact big 5 (by omega) (by omega) h5
  have h5' : ¬ nI j = 5 := fun q => h5 ((nI_eq (by omega) (by decide)).mp (show nI j = nI 5 from q))
  simp only [h5', if_false, gX3_become_31]
  by_cases h6 : j = 6
  · have h6' : nI j = 6 := by rw [h6]; decide
    simp only [h6', if_true, gX3_become_37, gX3_become_53, t0, true_and]
    exact big 6 (by omega) (by omega) h6
  have h6' : ¬ nI j = 6 := fun q => h6 ((nI_eq (by omega) (by decide)).mp (show nI j = nI 6 from q))
  have hj4 : j ≤ 4 := by omega
  simp only [h6', if_false, gX3_become_45, t0, true_and]
  refine p_numbers hv hj4 ?_
  have hcl : (nI i).toNatClampNeg = i := nI_clamp (by (repeat' split at hi) <;> omega)
  simp only [Option.toList_some, List.cons_append, List.nil_append, gX3_become_50, gX3_become_53, z_row hv hj4 hi h8, true_and, hcl]
  refine k _ (fun x hx => up_ne _ _ (by omega)) (by rw [up_ne _ _ (by omega)]) ?_
  funext q e
  unfold putS
  rw [if_pos hj4]
  by_cases hq : q ≤ 4
  · rw [vw_row _ a e hq]
    by_cases hqj : q = j
    · subst hqj
      rw [up_self, up_self]
      by_cases he : e = i
      · subst he
        rw [up_self, up_self]
      · rw [up_ne _ _ he, up_ne _ _ he, vw_row _ a e hq]
    · rw [up_ne _ _ (by omega), up_ne _ _ hqj, vw_row _ a e hq]
  · rw [up_ne _ _ (by omega)]
    by_cases hq5 : q = 5
    · subst hq5
      show va_up I (a + 1 + j) _ a (6 + e) = I a (6 + e)
      rw [up_ne _ _ (by omega)]
    · rw [vw_6 _ a e (by omega), vw_6 _ a e (by omega)]
end PN
