/-! PURE: the class thinks: river, over, signs, ring -/
def riverS (n : Nat) (l : tL) (r : Nat → Nat → Int32) (D w : Int32) : Int32 :=
  if inB D 0 60 = true ∧ inB w 0 1 = true then (if w = 0 then ovS n (itS l n D.toNatClampNeg r) n else smS (itS l n D.toNatClampNeg r) n) else -1
/-- the first day on which f answers -/
def fstS (f : Nat → (Nat → Nat → Int32) → Option Int32) (l : tL) (n : Nat) : Nat → Nat → (Nat → Nat → Int32) → Int32
  | 0, _, _ => -2
  | m + 1, i, r => match f i r with
    | some v => v
    | none => fstS f l n m (i + 1) (dayS l n r)
def ovF (n : Nat) (q : Int32) (i : Nat) (r : Nat → Nat → Int32) : Option Int32 :=
  if q = -1 then (if ovS n r n = 0 then none else some (tzS (ovS n r n))) else (if r 0 q.toNatClampNeg < r 1 q.toNatClampNeg then none else some (nI i))
def overS (n : Nat) (l : tL) (r : Nat → Nat → Int32) (q : Int32) : Int32 := if q = -1 ∨ isR n q = true then fstS (ovF n q) l n 61 0 r else -1
def cntS (l : tL) (n p : Nat) (c : Int32) : Nat → (Nat → Nat → Int32) → Int32 → Int32
  | 0, _, a => a
  | m + 1, r, a => cntS l n p c m (dayS l n r) (if sgS r (dayS l n r) p = c then a + 1 else a)
def runS (l : tL) (n p : Nat) : Nat → (Nat → Nat → Int32) → Int32 → Int32 → Int32
  | 0, _, _, lo => lo
  | m + 1, r, ru, lo => runS l n p m (dayS l n r) (if sgS r (dayS l n r) p = 1 then ru + 1 else 0) (if lo < (if sgS r (dayS l n r) p = 1 then ru + 1 else 0) then (if sgS r (dayS l n r) p = 1 then ru + 1 else 0) else lo)
def signsS (n : Nat) (l : tL) (r : Nat → Nat → Int32) (D p w : Int32) : Int32 :=
  if inB D 0 60 = true ∧ isR n p = true ∧ inB w 0 2 = true then (if w = 2 then runS l n p.toNatClampNeg D.toNatClampNeg r 0 0 else cntS l n p.toNatClampNeg (w + 1) D.toNatClampNeg r 0) else -1
/-- a ring: as is whether it asks when -/
def rngS (l : tL) (n : Nat) (as : Bool) : Nat → Nat → Nat → (Nat → Nat → Int32) → Int32
  | 0, _, p, _ => if as = true then -2 else nI p
  | m + 1, i, p, r => if n ≤ (if goS l n r p < 5 then p else p + 1) then (if as = true then nI i else 8) else rngS l n as m (i + 1) (if goS l n r p < 5 then p else p + 1) (dayS l n r)
def ringS (n : Nat) (l : tL) (r : Nat → Nat → Int32) (p D : Int32) : Int32 :=
  if isR n p = true ∧ inB D (-1) 60 = true then (if D = -1 then rngS l n true 60 1 p.toNatClampNeg r else rngS l n false D.toNatClampNeg 1 p.toNatClampNeg r) else -1
section C1
variable {X : tX} {T : tT} {I I' : tI} {J : tJ} {R : tR} {Q : tQ} {d a b c p n t D : Nat} {σ : rS} {l : tL} {r q : Nat → Nat → Int32}
theorem HS_8 (h : HS T I R b n l r) : n ≤ 8 := h.2.2.2.2.2.2.2.2.2.2.2.2.2.1
theorem riv_lv {a : Nat} (h : IsRiv T R a) : R a 0 = some (a + 1) := h.2.2.2.2.2.2.2.1
theorem c_river {D w : Int32} (h : HS T I R b n l r) (k : ∀ I' : tI, frC b I I' → Q (some (.int (riverS n l r D w))) (T, I', J, R)) : Ex X (d + 5) mX6_river 0 [.ref 0, .int D, .int w] [] (T, I, J, R) Q := by
  have h' := h
  obtain ⟨h0, r0, r1, r8, hb, hb2, hv, hC⟩ := h
  have bad : ∀ c : ¬ (inB D 0 60 = true ∧ inB w 0 1 = true), Ex X (d + 5) mX6_river 19 [.ref 0, .int D, .int w] [] (T, I, J, R) Q := by
    intro c
    simp only [gX6_river_19]
    have := k I (frC_r b I)
    rw [riverS, if_neg c] at this
    exact this
  simp only [gX6_river_0, gX6_river_4, gX6_river_10, gX6_river_14]
  by_cases c : inB D 0 60 = true ∧ inB w 0 1 = true
  · obtain ⟨d1, d2⟩ := of_decide_eq_true c.1
    obtain ⟨w1, w2⟩ := of_decide_eq_true c.2
    simp only [d1, d2, w1, Int32.not_lt.mp w2, if_false, if_true]
    obtain ⟨D, hD, rfl⟩ := nI_of2 (x := D) (M := 60) (n := 60) (by decide) d1 (Int32.not_lt.mp d2)
    rw [riverS, if_pos c, nI_clamp (show D < 2 ^ 31 by omega)] at k
    simp only [gX6_river_21, h0, true_and]
    refine c_think h' (by omega) (fun I1 hf1 hC1 => ?_)
    simp only [Option.toList_none, List.nil_append, gX6_river_26]
    by_cases g : w = 0
    · simp only [g, ne_eq, not_true_eq_false, if_true, if_false, gX6_river_30, h0, true_and, r1, rf_some, hv.1] at k ⊢
      refine c_overBits hC1 ?_
      simp only [Option.toList_some, List.cons_append, List.nil_append, gX6_river_37, gX6_river_47]
      exact k I1 hf1
    · simp only [g, ne_eq, not_false_eq_true, if_true, if_false, gX6_river_40, h0, true_and, r1, rf_some, hv.1] at k ⊢
      refine c_levelOfAll hC1 ?_
      simp only [Option.toList_some, List.cons_append, List.nil_append, gX6_river_47]
      exact k I1 hf1
  · have b := bad c
    repeat' first | exact b | split
    exact absurd ⟨decide_eq_true ⟨‹_›, ‹_›⟩, decide_eq_true ⟨‹_›, Int32.not_lt.mpr ‹_›⟩⟩ c
theorem c_over {v : Int32} (h : HS T I R b n l r) (k : ∀ I' : tI, frC b I I' → Q (some (.int (overS n l r v))) (T, I', J, R)) : Ex X (d + 5) mX6_over 0 [.ref 0, .int v, rU, rU, rU, rU] [] (T, I, J, R) Q := by
  have h' := h
  have h8 := HS_8 h
  obtain ⟨h0, r0, r1, r8, hb, hb2, hv, hC⟩ := h
  have loop : ∀ (wt oa : Int32) (f : Nat → (Nat → Nat → Int32) → Option Int32), (∀ i r, f i r = if ovS n r n &&& wt = 0 then none else some (if oa = 0 then nI i else tzS (ovS n r n &&& wt))) → ∀ (m i : Nat) (I1 : tI) (r1 : Nat → Nat → Int32) (v5 : Value), i + m = 61 → frC b I I1 → CS T I1 R 8 b n l r1 → (∀ I' : tI, frC b I I' → Q (some (.int (fstS f l n m i r1))) (T, I', J, R)) →
      Ex X (d + 5) mX6_over 51 [.ref 0, .int v, .int oa, .int wt, .int (nI i), v5] [] (T, I1, J, R) Q := by
    intro wt oa f hf m
    induction m with
    | zero =>
      intro i I1 q v5 hi hf1 hC1 k
      obtain rfl : i = 61 := by omega
      simp only [gX6_over_51, show (60 : Int32) < nI 61 by decide, if_true, gX6_over_107]
      exact k I1 hf1
    | succ m ih =>
      intro i I1 q v5 hi hf1 hC1 k
      simp only [gX6_over_51, show ¬ (60 : Int32) < nI i from nI_nlt (a := 60) (b := i) (by omega) (by decide), if_false]
      simp only [gX6_over_58, h0, true_and, r1, rf_some, hv.1]
      refine c_overBits hC1 ?_
      simp only [Option.toList_some, List.cons_append, List.nil_append, gX6_over_65]
      rw [fstS, hf] at k
      by_cases g : ovS n q n &&& wt = 0
      · simp only [g, if_true] at k ⊢
        simp only [gX6_over_89, h0, true_and, r1, r8, rf_some, hv.1]
        refine c_pass1 hC1 (fun I2 hf2 hC2 _ => ?_)
        simp only [Option.toList_none, List.nil_append, gX6_over_101, nI_1]
        exact ih (i + 1) I2 _ _ (by omega) (frC_t hf1 (frC_p hb hf2)) hC2 k
      · simp only [g, if_false, gX6_over_74] at k ⊢
        by_cases g2 : oa = 0
        · simp only [g2, if_true, gX6_over_86, gX6_over_88] at k ⊢
          exact k I1 hf1
        · simp only [g2, if_false, gX6_over_78] at k ⊢
          refine j_trailing ?_
          simp only [Option.toList_some, List.cons_append, List.nil_append, gX6_over_83, gX6_over_88]
          exact k I1 hf1
  simp only [gX6_over_0, gX6_over_5, gX6_over_9, gX6_over_10]
  by_cases g : v = -1
  · rw [overS, if_pos (Or.inl g)] at k
    simp only [g, ne_eq, not_true_eq_false, if_false, show ¬ (1 : Int32) = 0 by decide, not_false_eq_true, if_true, gX6_over_25, gX6_over_29, gX6_over_36, h0, true_and, r0, r1, rf_some, hv.1]
    refine c_take h' (fun I1 hf1 hC1 => ?_)
    simp only [Option.toList_none, List.nil_append, gX6_over_48]
    have := loop (-1) 1 (ovF n v) (fun i r => by rw [ovF, if_pos g, and_m1, if_neg (show ¬ (1 : Int32) = 0 by decide)]) 61 0 I1 r rU (by omega) hf1 hC1 k
    rw [g] at this
    exact this
  · simp only [g, ne_eq, not_false_eq_true, if_true, not_true_eq_false, if_false, gX6_over_15, h0, true_and]
    refine c_isReach h' ?_
    simp only [Option.toList_some, List.cons_append, List.nil_append, gX6_over_20, ne_eq, if10]
    cases g2 : isR n v with
    | false =>
      simp only [not_true_eq_false, if_false, gX6_over_23]
      have := k I (frC_r b I)
      rw [overS, if_neg (by simp [g, g2])] at this
      exact this
    | true =>
      rw [overS, if_pos (Or.inr g2)] at k
      simp only [reduceCtorEq, not_false_eq_true, if_true, gX6_over_25, gX6_over_33, gX6_over_36, h0, true_and, r0, r1, rf_some, hv.1]
      obtain ⟨p, hp, rfl⟩ := isR_t g2 h8
      refine c_take h' (fun I1 hf1 hC1 => ?_)
      simp only [Option.toList_none, List.nil_append, gX6_over_48]
      exact loop (ovM p) 0 (ovF n (nI p)) (fun i r => by rw [ovF, if_neg g, nI_clamp (show p < 2 ^ 31 by omega), if_pos rfl]; simp only [ov_ne r hp h8]) 61 0 I1 r rU (by omega) hf1 hC1 k
theorem c_signs {D p w : Int32} (h : HS T I R b n l r) (k : ∀ I' : tI, frC b I I' → Q (some (.int (signsS n l r D p w))) (T, I', J, R)) : Ex X (d + 5) mX6_signs 0 [.ref 0, .int D, .int p, .int w, rU, rU, rU, rU, rU, rU, rU] [] (T, I, J, R) Q := by
  have h' := h
  have h8 := HS_8 h
  obtain ⟨h0, r0, r1, r8, hb, hb2, hv, hC⟩ := h
  have bad : ∀ c : ¬ (inB D 0 60 = true ∧ isR n p = true ∧ inB w 0 2 = true), Ex X (d + 5) mX6_signs 27 [.ref 0, .int D, .int p, .int w, rU, rU, rU, rU, rU, rU, rU] [] (T, I, J, R) Q := by
    intro c
    simp only [gX6_signs_27]
    have := k I (frC_r b I)
    rw [signsS, if_neg c] at this
    exact this
  simp only [gX6_signs_0, gX6_signs_4]
  by_cases d1 : D < 0
  · simp only [d1, if_true]
    exact bad (fun c => (of_decide_eq_true c.1).1 d1)
  by_cases d2 : 60 < D
  · simp only [d1, d2, if_true, if_false]
    exact bad (fun c => (of_decide_eq_true c.1).2 d2)
  simp only [d1, d2, if_false, gX6_signs_10, h0, true_and]
  refine c_isReach h' ?_
  simp only [Option.toList_some, List.cons_append, List.nil_append, gX6_signs_15, if10]
  cases g : isR n p with
  | false =>
    simp only [if_true]
    exact bad (by rw [g]; simp)
  | true =>
  simp only [reduceCtorEq, if_false, gX6_signs_18, gX6_signs_22]
  by_cases c : inB D 0 60 = true ∧ isR n p = true ∧ inB w 0 2 = true
  · obtain ⟨w1, w2⟩ := of_decide_eq_true c.2.2
    simp only [w1, Int32.not_lt.mp w2, if_false, if_true]
    obtain ⟨p, hp, rfl⟩ := isR_t g h8
    obtain ⟨D, hD, rfl⟩ := nI_of2 (x := D) (M := 60) (n := 60) (by decide) d1 (Int32.not_lt.mp d2)
    obtain ⟨w, hw, rfl⟩ := nI_of2 (x := w) (M := 2) (n := 2) (by decide) w1 (Int32.not_lt.mp w2)
    rw [signsS, if_pos c, nI_clamp (show D < 2 ^ 31 by omega), nI_clamp (show p < 2 ^ 31 by omega)] at k
    have loop : ∀ (m i : Nat) (I1 : tI) (q : Nat → Nat → Int32) (a4 a5 a6 a7 : Int32) (v9 v10 : Value), i + m = D → frC b I I1 → CS T I1 R 8 b n l q → (∀ I' : tI, frC b I I' → Q (some (.int (if nI w = 2 then runS l n p m q a6 a7 else if nI w = 0 then cntS l n p 1 m q a4 else cntS l n p 2 m q a5))) (T, I', J, R)) →
        Ex X (d + 5) mX6_signs 55 [.ref 0, .int (nI D), .int (nI p), .int (nI w), .int a4, .int a5, .int a6, .int a7, .int (nI i), v9, v10] [] (T, I1, J, R) Q := by
      intro m
      induction m with
      | zero =>
        intro i I1 q a4 a5 a6 a7 v9 v10 hi hf1 hC1 k
        simp only [gX6_signs_55, nI_le (show D ≤ i by omega) (by omega), if_true, gX6_signs_163, gX6_signs_167, gX6_signs_172, gX6_signs_177, gX6_signs_182, gX6_signs_184]
        have := k I1 hf1
        have hw3 : w = 0 ∨ w = 1 ∨ w = 2 := by omega
        rcases hw3 with rfl | rfl | rfl
        · simpa [runS, cntS, show nI 0 = 0 by decide] using this
        · simpa [runS, cntS, show nI 1 = 1 by decide] using this
        · simpa [runS, cntS, show nI 2 = 2 by decide] using this
      | succ m ih =>
        intro i I1 q a4 a5 a6 a7 v9 v10 hi hf1 hC1 k
        simp only [gX6_signs_55, nI_ge (show i < D by omega) (by omega), if_false]
        simp only [gX6_signs_61, h0, true_and, r1, r8, rf_some, hv.1, riv_lv hv, rIn_at hv.2.1 (show p < 8 by omega) (by decide), nI_clamp (show p < 2 ^ 31 by omega), CS_lv hC1 hp]
        refine c_pass1 hC1 (fun I2 hf2 hC2 _ => ?_)
        simp only [Option.toList_none, List.nil_append, gX6_signs_84, h0, true_and, r1, r8, rf_some, hv.1, riv_lv hv, rIn_at hv.2.1 (show p < 8 by omega) (by decide), nI_clamp (show p < 2 ^ 31 by omega), CS_lv hC2 hp]
        refine c_signOf ?_
        have e : (if dayS l n q 0 p ≤ q 0 p then (if q 0 p ≤ dayS l n q 0 p then 0 else 2) else (1 : Int32)) = sgS q (dayS l n q) p := rfl
        rw [e]
        rw [runS, cntS, cntS] at k
        have f2 := frC_t hf1 (frC_p hb hf2)
        generalize sgS q (dayS l n q) p = s at k ⊢
        simp only [Option.toList_some, List.cons_append, List.nil_append, gX6_signs_98]
        by_cases s1 : s = 1
        · subst s1
          simp only [ne_eq, not_true_eq_false, if_false, if_true, gX6_signs_108, gX6_signs_113, show ¬ (1 : Int32) = 2 by decide, not_false_eq_true, gX6_signs_128, gX6_signs_129, gX6_signs_138, gX6_signs_146, nI_1] at k ⊢
          exact ih (i + 1) I2 _ _ _ _ _ _ _ (by omega) f2 hC2 (by simpa using k)
        · by_cases s2 : s = 2
          · subst s2
            simp only [ne_eq, not_true_eq_false, if_false, if_true, gX6_signs_112, gX6_signs_113, show ¬ (2 : Int32) = 1 by decide, not_false_eq_true, gX6_signs_124, gX6_signs_129, gX6_signs_145, gX6_signs_146, nI_1] at k ⊢
            exact ih (i + 1) I2 _ _ _ _ _ _ _ (by omega) f2 hC2 (by simpa using k)
          · simp only [s1, s2, ne_eq, not_true_eq_false, if_false, if_true, gX6_signs_112, gX6_signs_113, not_false_eq_true, gX6_signs_128, gX6_signs_129, gX6_signs_145, gX6_signs_146, nI_1] at k ⊢
            exact ih (i + 1) I2 _ _ _ _ _ _ _ (by omega) f2 hC2 (by simpa using k)
    simp only [gX6_signs_29, h0, true_and, r0, r1, rf_some, hv.1]
    refine c_take h' (fun I1 hf1 hC1 => ?_)
    simp only [Option.toList_none, List.nil_append, gX6_signs_52]
    refine loop D 0 I1 r 0 0 0 0 rU rU (by omega) hf1 hC1 (fun I' hf => ?_)
    have := k I' hf
    have hw3 : w = 0 ∨ w = 1 ∨ w = 2 := by omega
    rcases hw3 with rfl | rfl | rfl
    · simpa [show nI 0 = 0 by decide] using this
    · simpa [show nI 1 = 1 by decide] using this
    · simpa [show nI 2 = 2 by decide] using this
  · have b := bad c
    repeat' first | exact b | split
    exact absurd ⟨decide_eq_true ⟨‹_›, ‹_›⟩, g, decide_eq_true ⟨‹_›, Int32.not_lt.mpr ‹_›⟩⟩ c
theorem c_ring {p D : Int32} (h : HS T I R b n l r) (k : ∀ I' : tI, frC b I I' → Q (some (.int (ringS n l r p D))) (T, I', J, R)) : Ex X (d + 5) mX6_ring 0 [.ref 0, .int p, .int D, rU, rU, rU, rU] [] (T, I, J, R) Q := by
  have h' := h
  have h8 := HS_8 h
  obtain ⟨h0, r0, r1, r8, hb, hb2, hv, hC⟩ := h
  have hn : I 1 8 = nI n := hC.2.2.2.2.2.1
  have bad : ∀ c : ¬ (isR n p = true ∧ inB D (-1) 60 = true), Ex X (d + 5) mX6_ring 19 [.ref 0, .int p, .int D, rU, rU, rU, rU] [] (T, I, J, R) Q := by
    intro c
    simp only [gX6_ring_19]
    have := k I (frC_r b I)
    rw [ringS, if_neg c] at this
    exact this
  simp only [gX6_ring_0, h0, true_and]
  refine c_isReach h' ?_
  simp only [Option.toList_some, List.cons_append, List.nil_append, gX6_ring_5, if10]
  cases g : isR n p with
  | false =>
    simp only [if_true]
    exact bad (by rw [g]; simp)
  | true =>
  simp only [reduceCtorEq, if_false, gX6_ring_8, gX6_ring_13]
  by_cases c : isR n p = true ∧ inB D (-1) 60 = true
  · obtain ⟨w1, w2⟩ := of_decide_eq_true c.2
    simp only [w1, Int32.not_lt.mp w2, if_false, if_true]
    obtain ⟨p, hp, rfl⟩ := isR_t g h8
    rw [ringS, if_pos c, nI_clamp (show p < 2 ^ 31 by omega)] at k
    have loop : ∀ (as : Bool) (A : Nat), A ≤ 60 → ∀ (m i p' : Nat) (I1 : tI) (q : Nat → Nat → Int32), i + m = A + 1 → p' < n → frC b I I1 → CS T I1 R 8 b n l q → (∀ I' : tI, frC b I I' → Q (some (.int (rngS l n as m i p' q))) (T, I', J, R)) →
        Ex X (d + 5) mX6_ring 61 [.ref 0, .int (nI p), .int D, .int (if as = true then 1 else 0), .int (nI A), .int (nI p'), .int (nI i)] [] (T, I1, J, R) Q := by
      intro as A hA m
      induction m with
      | zero =>
        intro i p' I1 q hi hp' hf1 hC1 k
        simp only [gX6_ring_61, nI_lt (show A < i by omega) (by omega), if_true, gX6_ring_134, gX6_ring_138, gX6_ring_143, gX6_ring_145]
        have := k I1 hf1
        rw [rngS] at this
        cases as <;> simpa using this
      | succ m ih =>
        intro i p' I1 q hi hp' hf1 hC1 k
        simp only [gX6_ring_61, show ¬ nI A < nI i from nI_nlt (show i ≤ A by omega) (by omega), if_false]
        simp only [gX6_ring_68, h0, true_and, r1, r8, rf_some, hv.1]
        refine c_pass1 hC1 (fun I2 hf2 hC2 hw => ?_)
        have f2 := frC_t hf1 (frC_p hb hf2)
        have f1 : I2 1 = I 1 := f2 1 (by omega) (by omega)
        simp only [Option.toList_none, List.nil_append, gX6_ring_80, h0, true_and, r0, r1, r8, rf_some, hv.1, hv.2.2.2.2.2.2.2.2.2.2.2.2, rIn_at hv.2.2.2.2.2.2.1 (show p' < 8 by omega) (by decide), nI_clamp (show p' < 2 ^ 31 by omega), hw p' hp']
        rw [rngS] at k
        have rest : ∀ (p2 : Nat) (dl : Int32), nI p' + dl = nI p2 → p2 ≤ n → (∀ I' : tI, frC b I I' → Q (some (.int (if n ≤ p2 then (if as = true then nI i else 8) else rngS l n as m (i + 1) p2 (dayS l n q)))) (T, I', J, R)) → Ex X (d + 5) mX6_ring 101 [.ref 0, .int (nI p), .int D, .int (if as = true then 1 else 0), .int (nI A), .int (nI p'), .int (nI i)] [.int dl, .int (nI p')] (T, I2, J, R) Q := by
          intro p2 dl he hp2 k
          simp only [gX6_ring_101, he, h0, true_and, r0, rf_some, hC.2.1.1, f1, hn]
          by_cases g6 : n ≤ p2
          · simp only [g6, if_true, show ¬ nI p2 < nI n from nI_nlt g6 (by omega), if_false, gX6_ring_116] at k ⊢
            have := k I2 f2
            cases as
            · simpa [gX6_ring_125, gX6_ring_127] using this
            · simpa [gX6_ring_120, gX6_ring_127] using this
          · simp only [g6, if_false, nI_lt (show p2 < n by omega) (by omega), if_true, gX6_ring_128, nI_1] at k ⊢
            exact ih (i + 1) p2 I2 _ (by omega) (by omega) f2 hC2 k
        by_cases g5 : goS l n q p' < 5
        · simp only [g5, if_true, gX6_ring_100] at k ⊢
          exact rest p' 0 (Int32.add_zero _) (by omega) k
        · simp only [g5, if_false, gX6_ring_96] at k ⊢
          exact rest (p' + 1) 1 (nI_1 p') (by omega) k
    have go : ∀ (as : Bool) (A : Nat), A ≤ 60 → (∀ I' : tI, frC b I I' → Q (some (.int (rngS l n as A 1 p r))) (T, I', J, R)) → Ex X (d + 5) mX6_ring 42 [.ref 0, .int (nI p), .int D, .int (if as = true then 1 else 0), rU, rU, rU] [.int (nI A)] (T, I, J, R) Q := by
      intro as A hA k
      simp only [gX6_ring_42, h0, true_and, r0, r1, rf_some, hv.1]
      refine c_take h' (fun I1 hf1 hC1 => ?_)
      simp only [Option.toList_none, List.nil_append, gX6_ring_58]
      exact loop as A hA A 1 p I1 r (by omega) hp hf1 hC1 k
    simp only [gX6_ring_21]
    by_cases gm : D = -1
    · simp only [gm, ne_eq, not_true_eq_false, if_false, if_true, gX6_ring_26, gX6_ring_31, show ¬ (1 : Int32) = 0 by decide, gX6_ring_36] at k ⊢
      rw [gm] at go
      exact go true 60 (by decide) k
    · simp only [gm, ne_eq, not_false_eq_true, if_true, if_false, gX6_ring_30, gX6_ring_31, gX6_ring_41] at k ⊢
      have d0 : ¬ D < 0 := by
        intro z
        apply gm
        rw [Int32.lt_iff_toInt_lt] at w1 z
        apply Int32.toInt_inj.mp
        have e1 : (-1 : Int32).toInt = -1 := by decide
        have e2 : (0 : Int32).toInt = 0 := by decide
        omega
      obtain ⟨A, hA, rfl⟩ := nI_of2 (x := D) (M := 60) (n := 60) (by decide) d0 (Int32.not_lt.mp w2)
      rw [nI_clamp (show A < 2 ^ 31 by omega)] at k
      exact go false A hA k
  · have b := bad c
    repeat' first | exact b | split
    exact absurd ⟨g, decide_eq_true ⟨‹_›, Int32.not_lt.mpr ‹_›⟩⟩ c
end C1
