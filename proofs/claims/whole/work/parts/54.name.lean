/-! PURE: a river's numbers by name, on both sides -/
def loF (j : Nat) : Int32 := if j = 1 then 1 else 0
def hiF (j : Nat) : Int32 := if j ≤ 1 then 99 else if j = 2 then 1 else if j = 6 then 6 else 9
def vwN (n j : Nat) : Nat := if j ≤ 3 then n else if j = 4 then 7 else 1
theorem fitB_j {j : Nat} (hj : j ≤ 6) (v : Int32) : fitB (nI j) v = inB v (loF j) (hiF j) := by
  have e : ∀ j : Fin 7, (rTb 0).getD (nI j.val).toNatClampNeg 0 = loF j.val ∧ (rTb 1).getD (nI j.val).toNatClampNeg 0 = hiF j.val ∧ ¬ nI j.val < 0 ∧ nI j.val ≤ 6 := by decide +kernel
  obtain ⟨e1, e2, e3, e4⟩ := e ⟨j, by omega⟩
  unfold fitB inB
  rw [e1, e2]
  apply decide_eq_decide.mpr
  exact ⟨fun z => z.2.2, fun z => ⟨e3, e4, z⟩⟩
theorem hasB_1 {n : Nat} {x w : Int32} (h : inB w 0 3 = true) : hasB n x w = isR n x := by
  obtain ⟨h1, h2⟩ := of_decide_eq_true h
  have h6 : w ≤ 6 := by
    rw [Int32.lt_iff_toInt_lt, show (3 : Int32).toInt = 3 by decide] at h2
    rw [Int32.le_iff_toInt_le, show (6 : Int32).toInt = 6 by decide]
    omega
  unfold hasB isR
  rw [if_neg h2]
  apply decide_eq_decide.mpr
  exact ⟨fun z => z.2.2, fun z => ⟨h1, h6, z⟩⟩
theorem hasB_4 {n : Nat} {x : Int32} : hasB n x 4 = inB x 0 6 := by
  unfold hasB inB
  rw [if_pos (by decide), if_pos rfl]
  apply decide_eq_decide.mpr
  have e : (7 : Int32) ≤ x ↔ 6 < x := by
    rw [Int32.le_iff_toInt_le, Int32.lt_iff_toInt_lt, show (7 : Int32).toInt = 7 by decide, show (6 : Int32).toInt = 6 by decide]
    omega
  rw [e]
  exact ⟨fun z => z.2.2, fun z => ⟨by decide, by decide, z⟩⟩
theorem hasB_5 {n : Nat} {x w : Int32} (h : inB w 5 6 = true) : hasB n x w = decide (x = 0) := by
  obtain ⟨h1, h2⟩ := of_decide_eq_true h
  rw [Int32.lt_iff_toInt_lt, show (5 : Int32).toInt = 5 by decide] at h1
  rw [Int32.lt_iff_toInt_lt, show (6 : Int32).toInt = 6 by decide] at h2
  have w1 : ¬ w < 0 := by
    rw [Int32.lt_iff_toInt_lt, show (0 : Int32).toInt = 0 by decide]
    omega
  have w2 : w ≤ 6 := by
    rw [Int32.le_iff_toInt_le, show (6 : Int32).toInt = 6 by decide]
    omega
  have w3 : 3 < w := by
    rw [Int32.lt_iff_toInt_lt, show (3 : Int32).toInt = 3 by decide]
    omega
  have w4 : ¬ w = 4 := fun z => by
    rw [z, show (4 : Int32).toInt = 4 by decide] at h1
    omega
  unfold hasB
  rw [if_pos w3, if_neg w4]
  apply decide_eq_decide.mpr
  have e : (¬ x < 0 ∧ ¬ (1 : Int32) ≤ x) ↔ x = 0 := by
    rw [Int32.le_iff_toInt_le, Int32.lt_iff_toInt_lt, show (1 : Int32).toInt = 1 by decide, ← Int32.toInt_inj, show (0 : Int32).toInt = 0 by decide]
    omega
  rw [← e]
  exact ⟨fun z => z.2.2, fun z => ⟨w1, w2, z⟩⟩
theorem hasB_6 {n : Nat} {x w : Int32} (h3 : inB w 0 3 = false) (h4 : ¬ w = 4) (h : inB w 5 6 = false) : hasB n x w = false := by
  have a3 := of_decide_eq_false h3
  have a5 := of_decide_eq_false h
  apply decide_eq_false
  rintro ⟨b1, b2, -⟩
  rw [Int32.lt_iff_toInt_lt, show (0 : Int32).toInt = 0 by decide] at b1
  rw [Int32.le_iff_toInt_le, show (6 : Int32).toInt = 6 by decide] at b2
  rw [Int32.lt_iff_toInt_lt, Int32.lt_iff_toInt_lt, show (0 : Int32).toInt = 0 by decide, show (3 : Int32).toInt = 3 by decide] at a3
  rw [Int32.lt_iff_toInt_lt, Int32.lt_iff_toInt_lt, show (5 : Int32).toInt = 5 by decide, show (6 : Int32).toInt = 6 by decide] at a5
  exact h4 (Int32.toInt_inj.mp (by rw [show (4 : Int32).toInt = 4 by decide]; omega))
theorem putS_st (r : Nat → Nat → Int32) (w i : Nat) (v : Int32) : putS r w i v = stS r (if w ≤ 4 then w else 5) (if w ≤ 4 then i else w - 5) v := by
  unfold putS stS
  by_cases h : w ≤ 4
  · rw [if_pos h, if_pos h, if_pos h]
  · rw [if_neg h, if_neg h, if_neg h]
theorem inB_n {v : Int32} {m : Nat} (hm : m < 2 ^ 31) (h : inB v 0 (nI m) = true) : ∃ j : Nat, j ≤ m ∧ v = nI j := by
  obtain ⟨h1, h2⟩ := of_decide_eq_true h
  exact nI_of2 (x := v) (M := nI m) (n := m) (nI_toInt hm) h1 (Int32.not_lt.mp h2)
section NA
variable {X : tX} {T : tT} {I I' : tI} {J : tJ} {R : tR} {Q : tQ} {d a b c p n t D j i L0 : Nat} {σ : rS} {l : tL} {r q f : Nat → Nat → Int32} {v : Int32} {xs : Nat → Int32}
theorem put_can (hj : j ≤ 6) (hi : i < vwN n j) (h : can n f = r) : can n (putS f j i v) = putS r j i v := by
  rw [putS_st, putS_st]
  by_cases h4 : j ≤ 4
  · rw [if_pos h4, if_pos h4]
    refine can_st h h4 ?_ (fun x i _ hne _ => hne.elim st_k st_i) (st_at f j i v)
    unfold vwN at hi
    by_cases e : j ≤ 3
    · rw [if_pos e] at hi
      rw [if_pos (by omega)]
      exact hi
    · rw [if_neg e, if_pos (by omega)] at hi
      rw [if_neg (by omega)]
      exact hi
  · rw [if_neg h4, if_neg h4]
    funext x y
    by_cases e : x = 5 ∧ y = j - 5
    · obtain ⟨rfl, rfl⟩ := e
      rw [st_at, can_5 (by omega), st_at]
    · have e2 : ∀ g : Nat → Nat → Int32, stS g 5 (j - 5) v x y = g x y := fun g => by
        by_cases z : x = 5
        · exact st_i (fun y' => e ⟨z, y'⟩)
        · exact st_k z
      rw [e2 r, ← h]
      unfold can
      split
      · exact e2 f
      · rfl
theorem put_ok (h : rvOk n r) (hj : j ≤ 6) (hv : fitB (nI j) v = true) : rvOk n (putS r j i v) := by
  rw [fitB_j hj] at hv
  rw [putS_st]
  by_cases h4 : j ≤ 4
  · rw [if_pos h4, if_pos h4]
    refine st_ok h h4 (fun z => ?_)
    subst z
    obtain ⟨h1, h2⟩ := of_decide_eq_true hv
    exact ⟨h1, Int32.not_lt.mp h2⟩
  · rw [if_neg h4, if_neg h4]
    obtain ⟨h1, t, h7, h5⟩ := h
    have h56 : j = 5 ∨ j = 6 := by omega
    rcases h56 with rfl | rfl
    · exact ⟨fun p hp => by rw [st_k (by decide)]; exact h1 p hp, t, h7, by rw [st_i (by decide)]; exact h5⟩
    · obtain ⟨t', ht', rfl⟩ := inB_n (m := 6) (by decide) hv
      exact ⟨fun p hp => by rw [st_k (by decide)]; exact h1 p hp, t', by omega, st_at _ _ _ _⟩
theorem get_can (hj : j ≤ 6) (hi : i < vwN n j) (h : can n f = r) : getS f j i = getS r j i := by
  unfold getS
  rw [← h]
  unfold vwN at hi
  by_cases h3 : j ≤ 3
  · rw [if_pos h3] at hi
    rw [if_pos (by omega), if_pos (by omega), can_lt (by omega) hi]
  · by_cases h4 : j = 4
    · subst h4
      rw [if_neg (by omega), if_pos rfl] at hi
      rw [if_pos (by omega), if_pos (by omega), can_4 hi]
    · rw [if_neg (by omega), if_neg (by omega), can_5 (by omega)]
theorem CS_put (h : CS T I R a b n l r) (hj : j ≤ 6) (hi : i < vwN n j) (hv : fitB (nI j) v = true) (hf : ∀ x, x < a ∨ a + 5 < x → I' x = I x) (h8 : I' a 8 = I a 8) (he : vw I' a = putS (vw I a) j i v) : CS T I' R a b n l (putS r j i v) := by
  obtain ⟨hw, hv1, hab, hs, hl, hn, h8', hr, hok⟩ := h
  have fb := hf b (by omega)
  exact ⟨hw, hv1, hab, by rw [fb]; exact hs, by rw [cLw_eq fb (hf (b + 1) (by omega))]; exact hl, by rw [h8]; exact hn, h8', by rw [he]; exact put_can hj hi hr, put_ok hok hj hv⟩
theorem c_become (h : CS T I R a b n l r) (hj : j ≤ 6) (hi : i < vwN n j) (hb : hasB n (nI i) (nI j) = true) (hv : fitB (nI j) v = true) (k : ∀ I' : tI, (∀ x, x < a ∨ a + 5 < x → I' x = I x) → CS T I' R a b n l (putS r j i v) → Q none (T, I', J, R)) : Ex (rX L0 xs) (d + 1) mX3_become 0 [.ref a, .int (nI i), .int (nI j), .int v] [] (T, I, J, R) Q := by
  have h' := h
  obtain ⟨hw, hv1, hab, hs, hl, hn, h8', hr, hok⟩ := h
  exact p_become hv1 hn h8' hb hv hj hi (fun I1 hf h8 he => k I1 hf (CS_put h' hj hi hv hf h8 he))
theorem c_numberOf (h : CS T I R a b n l r) (hj : j ≤ 6) (hi : i < vwN n j) (hb : hasB n (nI i) (nI j) = true) (k : Q (some (.int (getS r j i))) (T, I, J, R)) : Ex X (d + 1) mX3_numberOf 0 [.ref a, .int (nI i), .int (nI j)] [] (T, I, J, R) Q := by
  obtain ⟨hw, hv1, hab, hs, hl, hn, h8', hr, hok⟩ := h
  exact p_numberOf hv1 hn h8' hb hj hi (by rw [get_can hj hi hr]; exact k)
theorem c_has {x w : Int32} (h : CS T I R a b n l r) (k : Q (some (.int (if hasB n x w = true then 1 else 0))) (T, I, J, R)) : Ex X d mX3_has 0 [.ref a, .int x, .int w, rU] [] (T, I, J, R) Q := by
  obtain ⟨hw, hv1, hab, hs, hl, hn, h8', hr, hok⟩ := h
  exact p_has hv1 hn k
theorem m_isOf {x w : Int32} (h : MS T I R n l r) (k : Q (some (.int (if hasB n x w = true then 1 else 0))) (T, I, J, R)) : Ex X (d + 2) mX7_isOf 0 [.ref 54, .int x, .int w] [] (T, I, J, R) Q := by
  have t0 := mt_54 h.1
  have fin : ∀ z : Bool, z = hasB n x w → Ex X (d + 2) mX7_isOf 51 [.ref 54, .int x, .int w] [.int (if z = true then 1 else 0)] (T, I, J, R) Q := by
    intro z hz
    simp only [gX7_isOf_51]
    rw [hz]
    refine ⟨?_, k⟩
    cases hasB n x w <;> simp
  simp only [gX7_isOf_0]
  refine s_within ?_
  simp only [Option.toList_some, List.cons_append, List.nil_append, gX7_isOf_6, if10]
  cases g : inB w 0 3 with
  | true =>
    simp only [reduceCtorEq, if_false, gX7_isOf_9, t0, true_and]
    refine s_isOne h ?_
    simp only [Option.toList_some, List.cons_append, List.nil_append, gX7_isOf_14]
    exact fin _ (hasB_1 g).symm
  | false =>
    simp only [if_true, gX7_isOf_17, ne_eq]
    by_cases g4 : w = 4
    · simp only [g4, not_true_eq_false, if_false, if_true, gX7_isOf_22]
      refine s_within ?_
      simp only [Option.toList_some, List.cons_append, List.nil_append, gX7_isOf_29]
      have := fin (inB x 0 6) (by rw [g4]; exact hasB_4.symm)
      rw [g4] at this
      exact this
    · simp only [g4, not_false_eq_true, if_false, if_true, gX7_isOf_32]
      refine s_within ?_
      simp only [Option.toList_some, List.cons_append, List.nil_append, gX7_isOf_39, if10]
      cases g5 : inB w 5 6 with
      | false =>
        simp only [if_true, gX7_isOf_50]
        exact fin false (hasB_6 g g4 g5).symm
      | true =>
        simp only [reduceCtorEq, if_false, gX7_isOf_42, ne_eq]
        by_cases e : x = 0
        · simp only [e, not_true_eq_false, if_false, if_true, gX7_isOf_46]
          have := fin true (by rw [hasB_5 g5, e]; rfl)
          rw [e] at this
          exact this
        · simp only [e, not_false_eq_true, if_false, if_true, gX7_isOf_50]
          exact fin false (by rw [hasB_5 g5]; exact (decide_eq_false e).symm)
theorem m_isFit (hj : j ≤ 6) (k : Q (some (.int (if fitB (nI j) v = true then 1 else 0))) σ) : Ex X (d + 1) mX7_isFit 0 [.int (nI j), .int v] [] σ Q := by
  rw [fitB_j hj] at k
  have z : ∀ b : Bool, (if b = true then (1 : Int32) else 0) = 0 ∨ (if b = true then (1 : Int32) else 0) = 1 := fun b => by cases b <;> simp
  have hj' : j = 0 ∨ j = 1 ∨ j = 2 ∨ j = 3 ∨ j = 4 ∨ j = 5 ∨ j = 6 := by omega
  simp only [gX7_isFit_0, sX7_isFit_1]
  rcases hj' with rfl | rfl | rfl | rfl | rfl | rfl | rfl
  · simp only [show nI 0 = 0 by decide, if_true, gX7_isFit_44]
    refine s_within ?_
    simp only [Option.toList_some, List.cons_append, List.nil_append, gX7_isFit_51]
    exact ⟨z _, k⟩
  · simp only [show nI 1 = 1 by decide, show ¬ (1 : Int32) = 0 by decide, if_true, if_false, gX7_isFit_52]
    refine s_within ?_
    simp only [Option.toList_some, List.cons_append, List.nil_append, gX7_isFit_59]
    exact ⟨z _, k⟩
  · simp only [show nI 2 = 2 by decide, show ¬ (2 : Int32) = 0 by decide, show ¬ (2 : Int32) = 1 by decide, if_true, if_false, gX7_isFit_60]
    refine s_within ?_
    simp only [Option.toList_some, List.cons_append, List.nil_append, gX7_isFit_66]
    exact ⟨z _, k⟩
  · simp only [show nI 3 = 3 by decide, show ¬ (3 : Int32) = 0 by decide, show ¬ (3 : Int32) = 1 by decide, show ¬ (3 : Int32) = 2 by decide, if_true, if_false, gX7_isFit_75]
    refine s_within ?_
    simp only [Option.toList_some, List.cons_append, List.nil_append, gX7_isFit_82]
    exact ⟨z _, k⟩
  · simp only [show nI 4 = 4 by decide, show ¬ (4 : Int32) = 0 by decide, show ¬ (4 : Int32) = 1 by decide, show ¬ (4 : Int32) = 2 by decide, show ¬ (4 : Int32) = 3 by decide, if_true, if_false, gX7_isFit_75]
    refine s_within ?_
    simp only [Option.toList_some, List.cons_append, List.nil_append, gX7_isFit_82]
    exact ⟨z _, k⟩
  · simp only [show nI 5 = 5 by decide, show ¬ (5 : Int32) = 0 by decide, show ¬ (5 : Int32) = 1 by decide, show ¬ (5 : Int32) = 2 by decide, show ¬ (5 : Int32) = 3 by decide, show ¬ (5 : Int32) = 4 by decide, if_true, if_false, gX7_isFit_75]
    refine s_within ?_
    simp only [Option.toList_some, List.cons_append, List.nil_append, gX7_isFit_82]
    exact ⟨z _, k⟩
  · simp only [show nI 6 = 6 by decide, show ¬ (6 : Int32) = 0 by decide, show ¬ (6 : Int32) = 1 by decide, show ¬ (6 : Int32) = 2 by decide, show ¬ (6 : Int32) = 3 by decide, show ¬ (6 : Int32) = 4 by decide, show ¬ (6 : Int32) = 5 by decide, if_true, if_false, gX7_isFit_67]
    refine s_within ?_
    simp only [Option.toList_some, List.cons_append, List.nil_append, gX7_isFit_74]
    exact ⟨z _, k⟩
theorem m_get (h : MS T I R n l r) (hj : j ≤ 6) (hi : i < vwN n j) (k : Q (some (.int (getS r j i))) (T, I, J, R)) : Ex X d mX7_get 0 [.ref 54, .int (nI i), .int (nI j)] [] (T, I, J, R) Q := by
  have hm := h.1
  have t0 := mt_54 hm
  have h8 := MS_8 h
  have hr : can n (vm I) = r := h.2.2.2.2.2.1
  rw [← get_can hj hi hr] at k
  unfold getS at k
  unfold vwN at hi
  simp only [gX7_get_0]
  by_cases h3 : j ≤ 3
  · rw [if_pos h3] at hi
    rw [if_pos (by omega), vm_row _ (by omega)] at k
    simp only [show ¬ (4 : Int32) ≤ nI j from nI_ge (b := 4) (by omega) (by decide), if_false, gX7_get_5, gX7_get_41, t0, true_and, mr_1 hm, rf_some, show (8 : Int32) * nI j = nI (8 * j) from z_mul 8 j, nI_add, rIn_at (mt_55 hm) (show 8 * j + i < 32 by omega) (by decide), nI_clamp (show 8 * j + i < 2 ^ 31 by omega)]
    exact k
  · rw [if_neg h3] at hi
    simp only [show (4 : Int32) ≤ nI j from nI_le (a := 4) (by omega) (by omega), if_true, gX7_get_19, ne_eq]
    by_cases h4 : j = 4
    · subst h4
      rw [if_pos rfl] at hi
      rw [if_pos (by omega)] at k
      simp only [show nI 4 = 4 by decide, not_true_eq_false, if_false, if_true, gX7_get_24, gX7_get_41, t0, true_and, mr_2 hm, rf_some, rIn_at (mt_56 hm) hi (by decide), nI_clamp (show i < 2 ^ 31 by omega)]
      exact k
    · rw [if_neg (by omega)] at k
      have e4 : ¬ nI j = 4 := fun q => h4 ((nI_eq (by omega) (by decide)).mp (show nI j = nI 4 from q))
      simp only [e4, not_false_eq_true, if_false, if_true, gX7_get_33, gX7_get_41, t0, true_and, mr_3 hm, rf_some, show nI j - 5 = nI (j - 5) from z_sub (b := 5) (by omega), rIn_at (mt_57 hm) (show j - 5 < 2 by omega) (by decide), nI_clamp (show j - 5 < 2 ^ 31 by omega)]
      exact k
theorem MS_put5 (h : MS T I R n l r) (h4 : 5 ≤ j) (hj : j ≤ 6) (hi : i < vwN n j) (hv : fitB (nI j) v = true) (he : I' 57 = va_up (I 57) (j - 5) v) (hf : ∀ x, x ≠ 57 → I' x = I x) : MS T I' R n l (putS r j i v) := by
  obtain ⟨hm, hok, hn, h8, hl, hr, hk1⟩ := h
  have f54 := hf 54 (by decide)
  have f55 := hf 55 (by decide)
  have f56 := hf 56 (by decide)
  have f59 := hf 59 (by decide)
  have f60 := hf 60 (by decide)
  have f61 := hf 61 (by decide)
  have f62 := hf 62 (by decide)
  refine ⟨hm, fun z => mOk_eq f54 f59 f60 f61 f62 (hok (by rw [f54] at z; exact z)), by rw [f54]; exact hn, h8, by rw [mLw_eq f54 f59 f60 f61 f62]; exact hl, ?_, put_ok hk1 hj hv⟩
  have e : vm I' = putS (vm I) j i v := by
    funext x y
    rw [putS_st, if_neg (by omega), if_neg (by omega)]
    by_cases x5 : x = 5
    · subst x5
      show I' 57 y = _
      rw [he]
      by_cases e : y = j - 5
      · subst e
        rw [up_self, st_at]
      · rw [up_ne _ _ e, st_i e]
        rfl
    · rw [st_k x5]
      simp only [vm, f55, f56, x5, if_false]
  rw [e]
  exact put_can hj hi hr
theorem m_becomes (h : MS T I R n l r) (hj : j ≤ 6) (hi : i < vwN n j) (hv : fitB (nI j) v = true) (k : ∀ I' : tI, (∀ x, x < 55 ∨ 57 < x → I' x = I x) → MS T I' R n l (putS r j i v) → Q none (T, I', J, R)) : Ex X d mX7_becomes 0 [.ref 54, .int (nI i), .int (nI j), .int v] [] (T, I, J, R) Q := by
  have hm := h.1
  have t0 := mt_54 hm
  have h8 := MS_8 h
  have hv' := hv
  rw [fitB_j hj] at hv'
  have hi' := hi
  unfold vwN at hi
  simp only [gX7_becomes_0]
  by_cases h3 : j ≤ 3
  · rw [if_pos h3] at hi
    simp only [show ¬ (4 : Int32) ≤ nI j from nI_ge (b := 4) (by omega) (by decide), if_false, gX7_becomes_5, gX7_becomes_44, t0, true_and, mr_1 hm, rf_some, show (8 : Int32) * nI j = nI (8 * j) from z_mul 8 j, nI_add, rIn_at (mt_55 hm) (show 8 * j + i < 32 by omega) (by decide), nI_clamp (show 8 * j + i < 2 ^ 31 by omega)]
    refine k _ (fun x hx => up_ne _ _ (by omega)) ?_
    rw [putS_st, if_pos (by omega), if_pos (by omega)]
    refine MS_set h (by omega) hi (fun z => ?_) (up_self _ _ _) (fun x hx => up_ne _ _ hx)
    subst z
    obtain ⟨h1, h2⟩ := of_decide_eq_true hv'
    exact ⟨h1, Int32.not_lt.mp h2⟩
  · rw [if_neg h3] at hi
    simp only [show (4 : Int32) ≤ nI j from nI_le (a := 4) (by omega) (by omega), if_true, gX7_becomes_20, ne_eq]
    by_cases h4 : j = 4
    · subst h4
      rw [if_pos rfl] at hi
      simp only [show nI 4 = 4 by decide, not_true_eq_false, if_false, if_true, gX7_becomes_25, gX7_becomes_44, t0, true_and, mr_2 hm, rf_some, rIn_at (mt_56 hm) hi (by decide), nI_clamp (show i < 2 ^ 31 by omega)]
      refine k _ (fun x hx => up_ne _ _ (by omega)) ?_
      rw [putS_st, if_pos (by omega), if_pos (by omega)]
      exact MS_setR h hi (up_self _ _ _) (fun x hx => up_ne _ _ hx)
    · have e4 : ¬ nI j = 4 := fun q => h4 ((nI_eq (by omega) (by decide)).mp (show nI j = nI 4 from q))
      simp only [e4, not_false_eq_true, if_false, if_true, gX7_becomes_35, gX7_becomes_44, t0, true_and, mr_3 hm, rf_some, show nI j - 5 = nI (j - 5) from z_sub (b := 5) (by omega), rIn_at (mt_57 hm) (show j - 5 < 2 by omega) (by decide), nI_clamp (show j - 5 < 2 ^ 31 by omega)]
      exact k _ (fun x hx => up_ne _ _ (by omega)) (MS_put5 h (by omega) hj hi' hv (up_self _ _ _) (fun x hx => up_ne _ _ hx))
end NA
